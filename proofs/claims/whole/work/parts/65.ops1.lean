/-! ===== operations on masks ===== -/
theorem I_m192 : (-192 : Int32).toInt = -192 := by decide
theorem I_m62 : (-62 : Int32).toInt = -62 := by decide
theorem I_m9 : (-9 : Int32).toInt = -9 := by decide
theorem I_0 : (0 : Int32).toInt = 0 := by decide
theorem I_1 : (1 : Int32).toInt = 1 := by decide
theorem I_2 : (2 : Int32).toInt = 2 := by decide
theorem I_3 : (3 : Int32).toInt = 3 := by decide
theorem I_5 : (5 : Int32).toInt = 5 := by decide
theorem I_9 : (9 : Int32).toInt = 9 := by decide
theorem I_16 : (16 : Int32).toInt = 16 := by decide
theorem I_62 : (62 : Int32).toInt = 62 := by decide
theorem I_63 : (63 : Int32).toInt = 63 := by decide
theorem I_64 : (64 : Int32).toInt = 64 := by decide
theorem I_192 : (192 : Int32).toInt = 192 := by decide
theorem I_1000 : (1000 : Int32).toInt = 1000 := by decide
theorem L_m192 : (-192 : Int64).toInt = -192 := by decide
theorem L_m62 : (-62 : Int64).toInt = -62 := by decide
theorem L_m9 : (-9 : Int64).toInt = -9 := by decide
theorem L_0 : (0 : Int64).toInt = 0 := by decide
theorem L_1 : (1 : Int64).toInt = 1 := by decide
theorem L_2 : (2 : Int64).toInt = 2 := by decide
theorem L_3 : (3 : Int64).toInt = 3 := by decide
theorem L_5 : (5 : Int64).toInt = 5 := by decide
theorem L_9 : (9 : Int64).toInt = 9 := by decide
theorem L_16 : (16 : Int64).toInt = 16 := by decide
theorem L_62 : (62 : Int64).toInt = 62 := by decide
theorem L_63 : (63 : Int64).toInt = 63 := by decide
theorem L_64 : (64 : Int64).toInt = 64 := by decide
theorem L_192 : (192 : Int64).toInt = 192 := by decide
theorem L_1000 : (1000 : Int64).toInt = 1000 := by decide
theorem wp_val {α : Type} {o : Option α} {v : α} (h : wp o (fun x => x = v)) : o = some v := by
  obtain ⟨x, e, rfl⟩ := h
  exact e
theorem nbN {x : Int64} (h : (x != ((-9223372036854775808) : Int64)) = true) : x ≠ ((-9223372036854775808) : Int64) := by simpa using h
theorem op_empty (I : Ims) (s u : St) (a0 a1 a2 : Int32) (h : Rl I s u) : Agr ["java/lang/IndexOutOfBoundsException"] (Rl I) (c_X3_empty s a0 a1 a2) (m_X4_empty u a0 a1 a2) := by
  obtain ⟨n, k, w, C, M, q, J, hW, hC, hM0, hI⟩ := h
  unfold c_X3_empty m_X4_empty
  have hM : RM n k w C M q J (sI u 0 0 0) := hM0.sI0 (Or.inl rfl)
  have ht : (sI u 0 0 0).1 0 0 = 0 := sIs
  generalize sI u 0 0 0 = u0 at hM ht ⊢
  simp only [needMask_eq, needWord_eq, needImage_eq, needColumn_eq hC hW, needRow_eq hC hW, needWidth_eq, xB_gX, isMask_eq, isWord_eq, isColumn_eq hM hW, isRow_eq hM hW, areIn_eq hM hW, isIn_eq, rg_if, needArgument_eq, needState_eq, Option.bind_some, if_bI, fails_eq, t64, I_m192, I_m62, I_m9, I_0, I_1, I_2, I_3, I_5, I_9, I_16, I_62, I_63, I_64, I_192, I_1000, L_m192, L_m62, L_m9, L_0, L_1, L_2, L_3, L_5, L_9, L_16, L_62, L_63, L_64, L_192, L_1000]
  by_cases h1 : inB a0 8 = true
  case neg =>
    rw [Bool.not_eq_true] at h1
    simp only [h1, Bool.false_and, Bool.and_false, Bool.and_self, Bool.true_and, Bool.and_true, Bool.false_eq_true, eq_self, if_true, if_false, reduceIte, ite_self]
    exact Agr.err hW hI 0 rfl rfl rfl sIs hC (hM.sI0 (Or.inl rfl))
  by_cases h2 : inB a1 k = true
  case neg =>
    rw [Bool.not_eq_true] at h2
    simp only [h1, h2, Bool.false_and, Bool.and_false, Bool.and_self, Bool.true_and, Bool.and_true, Bool.false_eq_true, eq_self, if_true, if_false, reduceIte, ite_self]
    exact Agr.err hW hI 0 rfl rfl rfl sIs hC (hM.sI0 (Or.inl rfl))
  by_cases h3 : inB a2 8 = true
  case neg =>
    rw [Bool.not_eq_true] at h3
    simp only [h1, h2, h3, Bool.false_and, Bool.and_false, Bool.and_self, Bool.true_and, Bool.and_true, Bool.false_eq_true, eq_self, if_true, if_false, reduceIte, ite_self]
    exact Agr.err hW hI 0 rfl rfl rfl sIs hC (hM.sI0 (Or.inl rfl))
  simp only [h1, h2, h3, Bool.false_and, Bool.and_false, Bool.and_self, Bool.true_and, Bool.and_true, Bool.false_eq_true, eq_self, if_true, if_false, reduceIte, ite_self]
  obtain ⟨m, hm, rfl⟩ := inB_ex (by decide) h1
  obtain ⟨c, hc, rfl⟩ := inB_ex hW.k31 h2
  obtain ⟨m2, hm2, rfl⟩ := inB_ex (by decide) h3
  have hc6 := hW.c6 hc
  rw [begin_eq, Option.bind_some]
  refine Agr.bindC (cmade (fun r => M m2 r && C c r == ((-9223372036854775808) : Int64)) hW (hC.oc (by decide) fL_oc) Mk_begin (fun i σ' hi hC' _ => ?_) (fun σ' hC' => ?_)) (fun σ' hσ => ?_)
  · simp only [hC'.rows, if_neg (ltL n hW.n31 hi), isUnder_eq hC' hm2 (hW.r192 hi), Option.bind_some, if_bI, ix6 hc6, ix192 (hW.r192 hi), hC'.cell hc hi, include_eq hC' hW hi, nI_s]
    by_cases e : C c i = ((-9223372036854775808) : Int64) <;> cases M m2 i <;> simp [e]
  · simp only [hC'.rows]
    exact if_pos (geL n hW.n31)
  rw [mmade (fun r => M m2 r && C c r == ((-9223372036854775808) : Int64)) hM (fun i u' hi hM' => ?_) (fun u' => if_pos ge192), Option.bind_some]
  · exact mask_end hW hI hσ.1 hσ.2 (hM.oc (by decide) fI_oc) (fun r hr => fI_in0 (hW.r192 hr)) (by rw [fI_ne (by decide)]; exact ht) hm
  · simp only [if_neg (lt192 hi), Option.bind_some, if_bI, at_eq, ixB hm2 hi, ixA hc6 hi, ix192 hi, hM'.msk hm2 hi, hM'.has hc hi, nI_s]
    cases e : M m2 i with
    | false => rfl
    | true =>
      have e2 := hW.hm hm2 e
      by_cases e3 : C c i = ((-9223372036854775808) : Int64)
      · simp [e2, e3, nz_1, nz_0]
      · have e4 : (C c i == ((-9223372036854775808) : Int64)) = false := by simpa using e3
        simp [e2, e3, e4, nz_1, nz_0]
theorem op_against (I : Ims) (s u : St) (a0 a1 a2 a3 a4 : Int32) (h : Rl I s u) : Agr ["java/lang/IndexOutOfBoundsException", "java/lang/IllegalArgumentException"] (Rl I) (c_X3_against s a0 a1 a2 a3 a4) (m_X4_against u a0 a1 a2 a3 a4) := by
  obtain ⟨n, k, w, C, M, q, J, hW, hC, hM0, hI⟩ := h
  unfold c_X3_against m_X4_against
  have hM : RM n k w C M q J (sI u 0 0 0) := hM0.sI0 (Or.inl rfl)
  have ht : (sI u 0 0 0).1 0 0 = 0 := sIs
  generalize sI u 0 0 0 = u0 at hM ht ⊢
  simp only [needMask_eq, needWord_eq, needImage_eq, needColumn_eq hC hW, needRow_eq hC hW, needWidth_eq, xB_gX, isMask_eq, isWord_eq, isColumn_eq hM hW, isRow_eq hM hW, areIn_eq hM hW, isIn_eq, rg_if, needArgument_eq, needState_eq, Option.bind_some, if_bI, fails_eq, t64, I_m192, I_m62, I_m9, I_0, I_1, I_2, I_3, I_5, I_9, I_16, I_62, I_63, I_64, I_192, I_1000, L_m192, L_m62, L_m9, L_0, L_1, L_2, L_3, L_5, L_9, L_16, L_62, L_63, L_64, L_192, L_1000]
  by_cases h1 : inB a0 8 = true
  case neg =>
    rw [Bool.not_eq_true] at h1
    simp only [h1, Bool.false_and, Bool.and_false, Bool.and_self, Bool.true_and, Bool.and_true, Bool.false_eq_true, eq_self, if_true, if_false, reduceIte, ite_self]
    exact Agr.err hW hI 0 rfl rfl rfl sIs hC (hM.sI0 (Or.inl rfl))
  by_cases h2 : inB a1 k = true
  case neg =>
    rw [Bool.not_eq_true] at h2
    simp only [h1, h2, Bool.false_and, Bool.and_false, Bool.and_self, Bool.true_and, Bool.and_true, Bool.false_eq_true, eq_self, if_true, if_false, reduceIte, ite_self]
    exact Agr.err hW hI 0 rfl rfl rfl sIs hC (hM.sI0 (Or.inl rfl))
  by_cases h3 : inB a4 8 = true
  case neg =>
    rw [Bool.not_eq_true] at h3
    simp only [h1, h2, h3, Bool.false_and, Bool.and_false, Bool.and_self, Bool.true_and, Bool.and_true, Bool.false_eq_true, eq_self, if_true, if_false, reduceIte, ite_self]
    exact Agr.err hW hI 0 rfl rfl rfl sIs hC (hM.sI0 (Or.inl rfl))
  by_cases h4 : inB a2 k = true
  case neg =>
    rw [Bool.not_eq_true] at h4
    simp only [h1, h2, h3, h4, Bool.false_and, Bool.and_false, Bool.and_self, Bool.true_and, Bool.and_true, Bool.false_eq_true, eq_self, if_true, if_false, reduceIte, ite_self]
    exact Agr.err hW hI 0 rfl rfl rfl sIs hC (hM.sI0 (Or.inl rfl))
  by_cases h5 : rg a3.toInt 0 5 = true
  case neg =>
    rw [Bool.not_eq_true] at h5
    simp only [h1, h2, h3, h4, h5, Bool.false_and, Bool.and_false, Bool.and_self, Bool.true_and, Bool.and_true, Bool.false_eq_true, eq_self, if_true, if_false, reduceIte, ite_self]
    exact Agr.err hW hI 1 rfl rfl rfl sIs hC (hM.sI0 (Or.inl rfl))
  simp only [h1, h2, h3, h4, h5, Bool.false_and, Bool.and_false, Bool.and_self, Bool.true_and, Bool.and_true, Bool.false_eq_true, eq_self, if_true, if_false, reduceIte, ite_self]
  obtain ⟨m, hm, rfl⟩ := inB_ex (by decide) h1
  obtain ⟨c, hc, rfl⟩ := inB_ex hW.k31 h2
  obtain ⟨m2, hm2, rfl⟩ := inB_ex (by decide) h3
  obtain ⟨d, hd, rfl⟩ := inB_ex hW.k31 h4
  have hc6 := hW.c6 hc
  have hd6 := hW.c6 hd
  rw [begin_eq, Option.bind_some]
  refine Agr.bindC (cmade (fun r => (C d r != ((-9223372036854775808) : Int64) && (C c r != ((-9223372036854775808) : Int64) && M m2 r)) && stB (C c r) a3 (C d r)) hW (hC.oc (by decide) fL_oc) Mk_begin (fun i σ' hi hC' _ => ?_) (fun σ' hC' => ?_)) (fun σ' hσ => ?_)
  · simp only [hC'.rows, if_neg (ltL n hW.n31 hi), areBoth_eq hC' hW hc hd hi hm2, Option.bind_some, if_bI, ix6 hc6, ix6 hd6, ix192 (hW.r192 hi), hC'.cell hc hi, hC'.cell hd hi, stands_eq, include_eq hC' hW hi, nI_s]
    cases (C d i != ((-9223372036854775808) : Int64) && (C c i != ((-9223372036854775808) : Int64) && M m2 i)) <;> cases stB (C c i) a3 (C d i) <;> rfl
  · simp only [hC'.rows]
    exact if_pos (geL n hW.n31)
  rw [mmade (fun r => (C d r != ((-9223372036854775808) : Int64) && (C c r != ((-9223372036854775808) : Int64) && M m2 r)) && stB (C c r) a3 (C d r)) hM (fun i u' hi hM' => ?_) (fun u' => if_pos ge192), Option.bind_some]
  · exact mask_end hW hI hσ.1 hσ.2 (hM.oc (by decide) fI_oc) (fun r hr => fI_in0 (hW.r192 hr)) (by rw [fI_ne (by decide)]; exact ht) hm
  · simp only [if_neg (lt192 hi), hasUnder_eq hM' hW hc hi hm2, Option.bind_some, if_bI, at_eq, ixA hc6 hi, ixA hd6 hi, ix192 hi, isSo_eq, hM'.has hd hi, nI_s]
    by_cases e : (C c i != ((-9223372036854775808) : Int64) && M m2 i) = true
    · have e1 := Bool.and_eq_true_iff.mp e
      have e2 := hW.hm hm2 e1.2
      rw [hM'.cell hc e2 (nbN e1.1)]
      by_cases e3 : C d i = ((-9223372036854775808) : Int64)
      · simp [e, e2, e3, nz_0]
      · rw [hM'.cell hd e2 e3]
        have e4 : (C d i != ((-9223372036854775808) : Int64)) = true := by simpa using e3
        simp only [e, e2, e4, Bool.false_and, Bool.and_false, Bool.and_self, Bool.true_and, Bool.and_true, Bool.false_eq_true, eq_self, if_true, if_false, reduceIte, ite_self, decide_true]
        cases stB (C c i) a3 (C d i) <;> rfl
    · rw [Bool.not_eq_true] at e
      simp only [e, Bool.false_and, Bool.and_false, Bool.and_self, Bool.true_and, Bool.and_true, Bool.false_eq_true, eq_self, if_true, if_false, reduceIte, ite_self]
      rfl
/-- the rows of a word -/
theorem rowsOfWord_wp {n : Nat} {σ : St} (hr : σ.1 1 0 = nI n) (hn : n ≤ 192) {d : Nat} (hd : d < 3) : wp (c_X1_rowsOfWord σ (nI d)) (fun x => ∀ j, j < 64 → lb x j = decide (64 * d + j < n)) := by
  unfold c_X1_rowsOfWord
  have e0 : nI d * (64 : Int32) = nI (d * 64) := pk_mul d 64
  rw [hr, e0]
  by_cases h : d * 64 < n
  · have e1 : nI n - nI (d * 64) = nI (n - d * 64) := pk_sub (by omega)
    rw [e1, if_pos (show (0 : Int32) < nI (n - d * 64) from nI_lt (a := 0) (by omega) (by omega))]
    by_cases h2 : n - d * 64 < 64
    · rw [if_pos (show nI (n - d * 64) < 64 from nI_lt (b := 64) h2 (by decide))]
      refine wp_some (fun j hj => ?_)
      have e2 : ((1 : Int64) <<< ((nI (n - d * 64)).toInt64 &&& 63)) - 1 = lN (2 ^ (n - d * 64) - 1) := by
        have := wb_shl 1 (k := n - d * 64) h2
        rw [Nat.one_mul] at this
        rw [show (1 : Int64) = lN 1 from rfl, this, lN_sub (Nat.pow_pos (by decide))]
      rw [e2]
      unfold lb
      rw [← BitVec.testBit_toNat, wb_tn (by
        have : 2 ^ (n - d * 64) ≤ 2 ^ 63 := Nat.pow_le_pow_right (by decide) (by omega)
        have h3 : (2 : Nat) ^ 63 < 2 ^ 64 := by decide
        omega), Nat.testBit_two_pow_sub_one]
      apply decide_eq_decide.mpr
      omega
    · rw [if_neg (show ¬ nI (n - d * 64) < 64 from nI_nlt (b := 64) (by omega) (by omega))]
      refine wp_some (fun j hj => ?_)
      rw [lb_m1 hj, decide_eq_true (by omega)]
  · rw [if_neg (show ¬ (0 : Int32) < nI n - nI (d * 64) from fun q => by
      rw [fa_lt, pk_sub_toInt (by omega) (by omega), I_0] at q
      omega)]
    refine wp_some (fun j hj => ?_)
    rw [lb_0, decide_eq_false (by omega)]
/-- a loop over the three words of the mask that is made -/
theorem cmade3 {n k : Nat} {w : Nat → Nat} {C : Nat → Nat → Int64} {M : Nat → Nat → Bool} {q : Int32} {v : St} {p : Nat → Bool} {f : Int32 × St → Option ((Int32 × St) ⊕ St)} (hC : RC n k w C M q v) (hs : ∀ i σ', i < 3 → RC n k w C M q σ' → wp (f (nI i, σ')) (fun o => ∃ x, o = .inl (nI (i + 1), sL σ' 26 i x) ∧ ∀ j, j < 64 → lb x j = p (64 * i + j))) (hx : ∀ σ', f (nI 3, σ') = some (.inr σ')) : wp (lp 5000 f ((0 : Int32), v)) (fun σ' => RC n k w C M q σ' ∧ Mk σ' p) := by
  refine wp_lp 3 (fun i s => s.1 = nI i ∧ RC n k w C M q s.2 ∧ ∀ r, r < 64 * i → lb (s.2.2 26 (r / 64)) (r % 64) = p r) (by decide) ⟨rfl, hC, fun r hr => absurd hr (by omega)⟩ (fun i s hi hI => ?_) (fun s hI => ?_)
  · obtain ⟨a, σ'⟩ := s
    obtain ⟨rfl, h1, h2⟩ := hI
    refine wp_mono (hs i σ' hi h1) ?_
    rintro o ⟨x, rfl, hxx⟩
    refine ⟨rfl, h1.sL (by decide), fun r hr => ?_⟩
    show lb ((sL σ' 26 i x).2 26 (r / 64)) (r % 64) = p r
    rw [sL2]
    by_cases e : r / 64 = i
    · rw [if_pos ⟨rfl, e⟩, hxx _ (by omega), show 64 * i + r % 64 = r by omega]
    · rw [if_neg (fun q => e q.2)]
      exact h2 r (by omega)
  · obtain ⟨a, σ'⟩ := s
    obtain ⟨rfl, h1, h2⟩ := hI
    exact wp_eq (hx σ') ⟨h1, fun r hr => h2 r (by omega)⟩
theorem RC.wbit {n k : Nat} {w : Nat → Nat} {C : Nat → Nat → Int64} {M : Nat → Nat → Bool} {q : Int32} {σ : St} {m i j : Nat} (h : RC n k w C M q σ) (hm : m < 8) (hi : i < 3) (hj : j < 64) : lb (σ.2 (11 + m) i) j = M m (64 * i + j) := by
  have := h.bit (r := 64 * i + j) hm (by omega)
  rwa [show (64 * i + j) / 64 = i by omega, show (64 * i + j) % 64 = j by omega] at this
theorem op_turn (I : Ims) (s u : St) (a0 a1 : Int32) (h : Rl I s u) : Agr ["java/lang/IndexOutOfBoundsException"] (Rl I) (c_X3_turn s a0 a1) (m_X4_turn u a0 a1) := by
  obtain ⟨n, k, w, C, M, q, J, hW, hC, hM0, hI⟩ := h
  unfold c_X3_turn m_X4_turn
  have hM : RM n k w C M q J (sI u 0 0 0) := hM0.sI0 (Or.inl rfl)
  have ht : (sI u 0 0 0).1 0 0 = 0 := sIs
  generalize sI u 0 0 0 = u0 at hM ht ⊢
  simp only [needMask_eq, needWord_eq, needImage_eq, needColumn_eq hC hW, needRow_eq hC hW, needWidth_eq, xB_gX, isMask_eq, isWord_eq, isColumn_eq hM hW, isRow_eq hM hW, areIn_eq hM hW, isIn_eq, rg_if, needArgument_eq, needState_eq, Option.bind_some, if_bI, fails_eq, t64, I_m192, I_m62, I_m9, I_0, I_1, I_2, I_3, I_5, I_9, I_16, I_62, I_63, I_64, I_192, I_1000, L_m192, L_m62, L_m9, L_0, L_1, L_2, L_3, L_5, L_9, L_16, L_62, L_63, L_64, L_192, L_1000]
  by_cases h1 : inB a0 8 = true
  case neg =>
    rw [Bool.not_eq_true] at h1
    simp only [h1, Bool.false_and, Bool.and_false, Bool.and_self, Bool.true_and, Bool.and_true, Bool.false_eq_true, eq_self, if_true, if_false, reduceIte, ite_self]
    exact Agr.err hW hI 0 rfl rfl rfl sIs hC (hM.sI0 (Or.inl rfl))
  by_cases h2 : inB a1 8 = true
  case neg =>
    rw [Bool.not_eq_true] at h2
    simp only [h1, h2, Bool.false_and, Bool.and_false, Bool.and_self, Bool.true_and, Bool.and_true, Bool.false_eq_true, eq_self, if_true, if_false, reduceIte, ite_self]
    exact Agr.err hW hI 0 rfl rfl rfl sIs hC (hM.sI0 (Or.inl rfl))
  simp only [h1, h2, Bool.false_and, Bool.and_false, Bool.and_self, Bool.true_and, Bool.and_true, Bool.false_eq_true, eq_self, if_true, if_false, reduceIte, ite_self]
  obtain ⟨m, hm, rfl⟩ := inB_ex (by decide) h1
  obtain ⟨m2, hm2, rfl⟩ := inB_ex (by decide) h2
  refine Agr.bindC (cmade3 (p := fun r => decide (r < n) && !M m2 r) hC (fun i σ' hi hC' => ?_) (fun σ' => if_pos (show (3 : Int32) ≤ nI 3 by decide))) (fun σ' hσ => ?_)
  · simp only [if_neg (show ¬ (3 : Int32) ≤ nI i from nI_ge (a := i) (b := 3) hi (by decide)), ix8 hm2, ix3 hi, Option.bind_some, nI_s]
    refine wp_bm (rowsOfWord_wp hC'.rows hW.hn hi) (fun x hx => wp_some ⟨_, rfl, fun j hj => ?_⟩)
    rw [lb_and, lb_xor, lb_m1 hj, hx j hj, hC'.wbit hm2 hi hj, Bool.and_comm, Bool.xor_true]
  rw [mmade (fun r => !M m2 r) hM (fun i u' hi hM' => ?_) (fun u' => if_pos ge192), Option.bind_some]
  · exact mask_end hW hI hσ.1 hσ.2 (hM.oc (by decide) fI_oc) (fun r hr => fI_in0 (hW.r192 hr)) (by rw [fI_ne (by decide)]; exact ht) hm
  · simp only [if_neg (lt192 hi), Option.bind_some, if_bI, at_eq, ixB hm2 hi, ix192 hi, hM'.msk hm2 hi, nI_s]
    cases M m2 i <;> rfl
def jB (h : Int32) (x y : Bool) : Bool := if h = 0 then x && y else if h = 1 then x || y else if h = 2 then x ^^ y else x && !y
theorem joined_wp (σ : St) (x y : Int64) (h : Int32) : wp (c_X3_joined σ x y h) (fun z => ∀ j, j < 64 → lb z j = jB h (lb x j) (lb y j)) := by
  unfold c_X3_joined jB
  by_cases h0 : h = 0
  · simp only [if_pos h0]
    exact wp_some fun j _ => lb_and _ _ _
  simp only [if_neg h0]
  by_cases h1 : h = 1
  · simp only [if_pos h1]
    exact wp_some fun j _ => lb_or _ _ _
  simp only [if_neg h1]
  by_cases h2 : h = 2
  · simp only [if_pos h2]
    exact wp_some fun j _ => lb_xor _ _ _
  simp only [if_neg h2]
  refine wp_some fun j hj => ?_
  rw [lb_and, lb_xor, lb_m1 hj, Bool.xor_true]
theorem op_join (I : Ims) (s u : St) (a0 a1 a2 a3 : Int32) (h : Rl I s u) : Agr ["java/lang/IndexOutOfBoundsException", "java/lang/IllegalArgumentException"] (Rl I) (c_X3_join s a0 a1 a2 a3) (m_X4_join u a0 a1 a2 a3) := by
  obtain ⟨n, k, w, C, M, q, J, hW, hC, hM0, hI⟩ := h
  unfold c_X3_join m_X4_join
  have hM : RM n k w C M q J (sI u 0 0 0) := hM0.sI0 (Or.inl rfl)
  have ht : (sI u 0 0 0).1 0 0 = 0 := sIs
  generalize sI u 0 0 0 = u0 at hM ht ⊢
  simp only [needMask_eq, needWord_eq, needImage_eq, needColumn_eq hC hW, needRow_eq hC hW, needWidth_eq, xB_gX, isMask_eq, isWord_eq, isColumn_eq hM hW, isRow_eq hM hW, areIn_eq hM hW, isIn_eq, rg_if, needArgument_eq, needState_eq, Option.bind_some, if_bI, fails_eq, t64, I_m192, I_m62, I_m9, I_0, I_1, I_2, I_3, I_5, I_9, I_16, I_62, I_63, I_64, I_192, I_1000, L_m192, L_m62, L_m9, L_0, L_1, L_2, L_3, L_5, L_9, L_16, L_62, L_63, L_64, L_192, L_1000]
  by_cases h1 : inB a0 8 = true
  case neg =>
    rw [Bool.not_eq_true] at h1
    simp only [h1, Bool.false_and, Bool.and_false, Bool.and_self, Bool.true_and, Bool.and_true, Bool.false_eq_true, eq_self, if_true, if_false, reduceIte, ite_self]
    exact Agr.err hW hI 0 rfl rfl rfl sIs hC (hM.sI0 (Or.inl rfl))
  by_cases h2 : inB a1 8 = true
  case neg =>
    rw [Bool.not_eq_true] at h2
    simp only [h1, h2, Bool.false_and, Bool.and_false, Bool.and_self, Bool.true_and, Bool.and_true, Bool.false_eq_true, eq_self, if_true, if_false, reduceIte, ite_self]
    exact Agr.err hW hI 0 rfl rfl rfl sIs hC (hM.sI0 (Or.inl rfl))
  by_cases h3 : inB a2 8 = true
  case neg =>
    rw [Bool.not_eq_true] at h3
    simp only [h1, h2, h3, Bool.false_and, Bool.and_false, Bool.and_self, Bool.true_and, Bool.and_true, Bool.false_eq_true, eq_self, if_true, if_false, reduceIte, ite_self]
    exact Agr.err hW hI 0 rfl rfl rfl sIs hC (hM.sI0 (Or.inl rfl))
  by_cases h4 : rg a3.toInt 0 3 = true
  case neg =>
    rw [Bool.not_eq_true] at h4
    simp only [h1, h2, h3, h4, Bool.false_and, Bool.and_false, Bool.and_self, Bool.true_and, Bool.and_true, Bool.false_eq_true, eq_self, if_true, if_false, reduceIte, ite_self]
    exact Agr.err hW hI 1 rfl rfl rfl sIs hC (hM.sI0 (Or.inl rfl))
  simp only [h1, h2, h3, h4, Bool.false_and, Bool.and_false, Bool.and_self, Bool.true_and, Bool.and_true, Bool.false_eq_true, eq_self, if_true, if_false, reduceIte, ite_self]
  obtain ⟨m, hm, rfl⟩ := inB_ex (by decide) h1
  obtain ⟨m2, hm2, rfl⟩ := inB_ex (by decide) h2
  obtain ⟨m3, hm3, rfl⟩ := inB_ex (by decide) h3
  refine Agr.bindC (cmade3 (p := fun r => jB a3 (M m2 r) (M m3 r)) hC (fun i σ' hi hC' => ?_) (fun σ' => if_pos (show (3 : Int32) ≤ nI 3 by decide))) (fun σ' hσ => ?_)
  · simp only [if_neg (show ¬ (3 : Int32) ≤ nI i from nI_ge (a := i) (b := 3) hi (by decide)), ix8 hm2, ix8 hm3, ix3 hi, Option.bind_some, nI_s]
    refine wp_bm (joined_wp _ _ _ _) (fun x hx => wp_some ⟨_, rfl, fun j hj => ?_⟩)
    rw [hx j hj, hC'.wbit hm2 hi hj, hC'.wbit hm3 hi hj]
  rw [mmade (fun r => jB a3 (M m2 r) (M m3 r)) hM (fun i u' hi hM' => ?_) (fun u' => if_pos ge192), Option.bind_some]
  · refine mask_end hW hI hσ.1 (fun r hr => ?_) (hM.oc (by decide) fI_oc) (fun r hr => fI_in0 (hW.r192 hr)) (by rw [fI_ne (by decide)]; exact ht) hm
    rw [hσ.2 r hr]
    by_cases hr : r < n
    · simp [hr]
    · have e2 : M m2 r = false := by
        cases e : M m2 r
        · rfl
        · exact absurd (hW.hm hm2 e) hr
      have e3 : M m3 r = false := by
        cases e : M m3 r
        · rfl
        · exact absurd (hW.hm hm3 e) hr
      simp only [e2, e3, decide_eq_false hr, Bool.false_and]
      unfold jB
      repeat' split
      all_goals rfl
  · simp only [if_neg (lt192 hi), Option.bind_some, if_bI, at_eq, ixB hm2 hi, ixB hm3 hi, ix192 hi, hM'.msk hm2 hi, hM'.msk hm3 hi, nI_s, bI_inj]
    unfold jB
    cases M m2 i <;> cases M m3 i <;> (repeat' split) <;> first | rfl | contradiction | skip
    all_goals simp_all
