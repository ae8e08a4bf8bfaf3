/-! ===== mask; slice, word, row, runs, where; alike, firsts ===== -/
theorem op_word (I : Ims) (s u : St) (a0 a1 : Int32) (h : Rl I s u) : Agr ["java/lang/IndexOutOfBoundsException"] (Rl I) (c_X3_word s a0 a1) (m_X4_word u a0 a1) := by
  obtain ⟨n, k, w, C, M, q, J, hW, hC, hM0, hI⟩ := h
  unfold c_X3_word m_X4_word
  have hM : RM n k w C M q J (sI u 0 0 0) := hM0.sI0 (Or.inl rfl)
  have ht : (sI u 0 0 0).1 0 0 = 0 := sIs
  generalize sI u 0 0 0 = u0 at hM ht ⊢
  simp only [needMask_eq, needWord_eq, needImage_eq, needColumn_eq hC hW, needRow_eq hC hW, needWidth_eq, xB_gX, isMask_eq, isWord_eq, isColumn_eq hM hW, isRow_eq hM hW, areIn_eq hM hW, isIn_eq, rg_if, needArgument_eq, needState_eq, Option.bind_some, if_bI, fails_eq, t64, I_m192, I_m62, I_m9, I_0, I_1, I_2, I_3, I_5, I_9, I_16, I_62, I_63, I_64, I_192, I_1000, L_m192, L_m62, L_m9, L_0, L_1, L_2, L_3, L_5, L_9, L_16, L_62, L_63, L_64, L_192, L_1000]
  by_cases h1 : inB a0 8 = true
  case neg =>
    rw [Bool.not_eq_true] at h1
    simp only [h1, Bool.false_and, Bool.and_false, Bool.and_self, Bool.true_and, Bool.and_true, Bool.false_eq_true, eq_self, if_true, if_false, reduceIte, ite_self]
    exact Agr.err hW hI 0 rfl rfl rfl sIs hC (hM.sI0 (Or.inl rfl))
  by_cases h2 : inB a1 3 = true
  case neg =>
    rw [Bool.not_eq_true] at h2
    simp only [h1, h2, Bool.false_and, Bool.and_false, Bool.and_self, Bool.true_and, Bool.and_true, Bool.false_eq_true, eq_self, if_true, if_false, reduceIte, ite_self]
    exact Agr.err hW hI 0 rfl rfl rfl sIs hC (hM.sI0 (Or.inl rfl))
  simp only [h1, h2, Bool.false_and, Bool.and_false, Bool.and_self, Bool.true_and, Bool.and_true, Bool.false_eq_true, eq_self, if_true, if_false, reduceIte, ite_self]
  obtain ⟨m, hm, rfl⟩ := inB_ex (by decide) h1
  obtain ⟨d, hd, rfl⟩ := inB_ex (by decide) h2
  rw [ix8 hm, Option.bind_some, ix3 hd, Option.bind_some]
  refine Agr.bindM (P := fun x => x = s.2 (11 + m) d) (wp_lp 64 (fun i (p : Int64 × Int32) => p.2 = nI i ∧ ∀ j, j < 64 → lb p.1 j = (decide (j < i) && M m (64 * d + j))) (by decide) ⟨rfl, fun j hj => ?_⟩ (fun i p hi hJ => ?_) (fun p hJ => ?_)) (fun x hx => ?_)
  · rw [lb_0]; simp
  · obtain ⟨a, b⟩ := p
    obtain ⟨hb, h2⟩ := hJ
    simp only at hb h2
    subst hb
    have e1 : (64 : Int32) * nI d + nI i = nI (64 * d + i) := by rw [show (64 : Int32) = nI 64 from rfl, pk_mul, nI_add]
    simp only [if_neg (show ¬ (64 : Int32) ≤ nI i from nI_ge (a := i) (b := 64) hi (by decide)), e1, at_eq, ixB hm (show 64 * d + i < 192 by omega), Option.bind_some, hM.msk hm (show 64 * d + i < 192 by omega), if_bI, nI_s]
    cases hMi : M m (64 * d + i) with
    | false =>
      refine wp_some ⟨rfl, fun j hj => ?_⟩
      rw [h2 j hj]
      by_cases e : j = i
      · subst e; simp [hMi]
      · rw [show decide (j < i) = decide (j < i + 1) from decide_eq_decide.mpr (by omega)]
    | true =>
      refine wp_some ⟨rfl, fun j hj => ?_⟩
      show lb (a ||| _) j = _
      rw [lb_or, h2 j hj, lb_bit1 hi hj]
      by_cases e : j = i
      · subst e; simp [hMi]
      · rw [show decide (j < i) = decide (j < i + 1) from decide_eq_decide.mpr (by omega)]; simp [e]
  · obtain ⟨a, b⟩ := p
    obtain ⟨hb, h2⟩ := hJ
    simp only at hb h2
    subst hb
    refine wp_eq (if_pos (show (64 : Int32) ≤ nI 64 by decide)) (lb_ext fun j hj => ?_)
    rw [h2 j hj, hC.wbit hm hd hj, decide_eq_true hj, Bool.true_and]
  · subst hx
    exact Agr.ok hW hI rfl rfl ht hC hM
theorem hasBit_eq (σ : St) (x : Int64) {j : Nat} (hj : j < 64) : c_X3_hasBit σ x (nI j) = some (bI (lb x j)) := by
  unfold c_X3_hasBit
  simp only [lb_ask0 hj]
  cases lb x j <;> rfl
theorem lb_N {j : Nat} (hj : j < 63) : lb ((-9223372036854775808) : Int64) j = false := by
  have : ∀ j, j < 63 → lb ((-9223372036854775808) : Int64) j = false := by decide +kernel
  exact this j hj
theorem op_slice (I : Ims) (s u : St) (a0 a1 a2 : Int32) (h : Rl I s u) : Agr ["java/lang/IndexOutOfBoundsException"] (Rl I) (c_X3_slice s a0 a1 a2) (m_X4_slice u a0 a1 a2) := by
  obtain ⟨n, k, w, C, M, q, J, hW, hC, hM0, hI⟩ := h
  unfold c_X3_slice m_X4_slice
  have hM : RM n k w C M q J (sI u 0 0 0) := hM0.sI0 (Or.inl rfl)
  have ht : (sI u 0 0 0).1 0 0 = 0 := sIs
  generalize sI u 0 0 0 = u0 at hM ht ⊢
  simp only [needMask_eq, needWord_eq, needImage_eq, needColumn_eq hC hW, needRow_eq hC hW, needWidth_eq, xB_gX, isMask_eq, isWord_eq, isColumn_eq hM hW, isRow_eq hM hW, areIn_eq hM hW, isIn_eq, rg_if, needArgument_eq, needState_eq, Option.bind_some, if_bI, fails_eq, t64, I_m192, I_m62, I_m9, I_0, I_1, I_2, I_3, I_5, I_9, I_16, I_62, I_63, I_64, I_192, I_1000, L_m192, L_m62, L_m9, L_0, L_1, L_2, L_3, L_5, L_9, L_16, L_62, L_63, L_64, L_192, L_1000]
  by_cases h1 : inB a0 k = true
  case neg =>
    rw [Bool.not_eq_true] at h1
    simp only [h1, Bool.false_and, Bool.and_false, Bool.and_self, Bool.true_and, Bool.and_true, Bool.false_eq_true, eq_self, if_true, if_false, reduceIte, ite_self]
    exact Agr.err hW hI 0 rfl rfl rfl sIs hC (hM.sI0 (Or.inl rfl))
  simp only [h1, Bool.false_and, Bool.and_false, Bool.and_self, Bool.true_and, Bool.and_true, Bool.false_eq_true, eq_self, if_true, if_false, reduceIte, ite_self]
  obtain ⟨c, hc, rfl⟩ := inB_ex hW.k31 h1
  have hc6 := hW.c6 hc
  have hw := hW.hw hc
  have ew : (nI (w c) - 1).toInt = (w c : Int) - 1 := by
    rw [show (1 : Int32) = nI 1 from rfl, pk_sub_toInt (by omega) (by decide)]
    rfl
  simp only [needBit_eq hC hW hc, xB_gX, ix6 hc6, Option.bind_some, hM.wid hc, ew, rg_inB]
  by_cases h2 : inB a1 (w c) = true
  case neg =>
    rw [Bool.not_eq_true] at h2
    simp only [h1, h2, Bool.false_and, Bool.and_false, Bool.and_self, Bool.true_and, Bool.and_true, Bool.false_eq_true, eq_self, if_true, if_false, reduceIte, ite_self]
    exact Agr.err hW hI 0 rfl rfl rfl sIs hC (hM.sI0 (Or.inl rfl))
  by_cases h3 : inB a2 3 = true
  case neg =>
    rw [Bool.not_eq_true] at h3
    simp only [h1, h2, h3, Bool.false_and, Bool.and_false, Bool.and_self, Bool.true_and, Bool.and_true, Bool.false_eq_true, eq_self, if_true, if_false, reduceIte, ite_self]
    exact Agr.err hW hI 0 rfl rfl rfl sIs hC (hM.sI0 (Or.inl rfl))
  simp only [h1, h2, h3, Bool.false_and, Bool.and_false, Bool.and_self, Bool.true_and, Bool.and_true, Bool.false_eq_true, eq_self, if_true, if_false, reduceIte, ite_self]
  obtain ⟨b, hb, rfl⟩ := inB_ex (by omega) h2
  obtain ⟨d, hd, rfl⟩ := inB_ex (by decide) h3
  rw [begin_eq, Option.bind_some]
  refine Agr.bindC (cmade (fun r => lb (C c r) b) hW (hC.oc (i := 26) (by decide) fL_oc) Mk_begin (fun i σ' hi hC' _ => ?_) (fun σ' hC' => ?_)) (fun σ' hσ => ?_)
  · simp only [hC'.rows, if_neg (ltL n hW.n31 hi), Option.bind_some, ix192 (hW.r192 hi), hC'.cell hc hi, hasBit_eq _ _ (show b < 64 by omega), if_bI, include_eq hC' hW hi, nI_s]
    cases lb (C c i) b <;> rfl
  · simp only [hC'.rows]
    exact if_pos (geL n hW.n31)
  rw [ix3 hd, Option.bind_some]
  refine Agr.bindM (P := fun x => x = σ'.2 26 d) (wp_lp 64 (fun i (p : Int64 × Int32) => p.2 = nI i ∧ ∀ j, j < 64 → lb p.1 j = (decide (j < i) && (decide (64 * d + j < n) && lb (C c (64 * d + j)) b))) (by decide) ⟨rfl, fun j hj => ?_⟩ (fun i p hi hJ => ?_) (fun p hJ => ?_)) (fun x hx => ?_)
  · rw [lb_0]; simp
  · obtain ⟨a, z⟩ := p
    obtain ⟨hz, h2⟩ := hJ
    simp only at hz h2
    subst hz
    have e1 : (64 : Int32) * nI d + nI i = nI (64 * d + i) := by rw [show (64 : Int32) = nI 64 from rfl, pk_mul, nI_add]
    have hr : 64 * d + i < 192 := by omega
    simp only [if_neg (show ¬ (64 : Int32) ≤ nI i from nI_ge (a := i) (b := 64) hi (by decide)), e1, hM.rows, at_eq, ixA hc6 hr, Option.bind_some, hM.has hc hr, if_bI, nI_s, lb_ask (show b < 64 by omega)]
    have fin : ∀ y : Int64, (∀ j, j < 64 → lb y j = (lb a j || (decide (j = i) && (decide (64 * d + i < n) && lb (C c (64 * d + i)) b)))) → ∀ j, j < 64 → lb y j = (decide (j < i + 1) && (decide (64 * d + j < n) && lb (C c (64 * d + j)) b)) := by
      intro y hy j hj
      rw [hy j hj, h2 j hj]
      by_cases e : j = i
      · subst e; simp
      · rw [show decide (j < i) = decide (j < i + 1) from decide_eq_decide.mpr (by omega)]; simp [e]
    by_cases hn : 64 * d + i < n
    · rw [if_neg (ltL n hW.n31 hn)]
      by_cases eN : C c (64 * d + i) = ((-9223372036854775808) : Int64)
      · simp only [eN, hn, decide_true, bne_self_eq_false, Bool.false_and, Bool.and_false, Bool.and_self, Bool.true_and, Bool.and_true, Bool.false_eq_true, eq_self, if_true, if_false, reduceIte, ite_self, Option.bind_some]
        refine wp_some ⟨rfl, fin a (fun j hj => ?_)⟩
        rw [eN, lb_N (by omega)]; simp
      · have e4 : (C c (64 * d + i) != ((-9223372036854775808) : Int64)) = true := by simpa using eN
        simp only [e4, hn, decide_true, Bool.false_and, Bool.and_false, Bool.and_self, Bool.true_and, Bool.and_true, Bool.false_eq_true, eq_self, if_true, if_false, reduceIte, ite_self, Option.bind_some, hM.cell hc hn eN]
        refine wp_some ⟨rfl, fin _ (fun j hj => ?_)⟩
        rw [lb_or, lb_shl hi _ hj]
        cases lb (C c (64 * d + i)) b
        · simp [lb_0]
        · simp only [if_true, lb_1, hn, decide_true, Bool.and_true]
          congr 1
          by_cases e : j = i
          · subst e; simp
          · by_cases e2 : i ≤ j
            · have : ¬ j - i = 0 := by omega
              simp [e, e2, this]
            · simp [e, e2]
    · rw [if_pos (nI_le (by omega) (by omega)), Option.bind_some]
      refine wp_some ⟨rfl, fin a (fun j hj => ?_)⟩
      simp [hn]
  · obtain ⟨a, z⟩ := p
    obtain ⟨hz, h2⟩ := hJ
    simp only at hz h2
    subst hz
    refine wp_eq (if_pos (show (64 : Int32) ≤ nI 64 by decide)) (lb_ext fun j hj => ?_)
    have := hσ.2 (64 * d + j) (by omega)
    rw [show (64 * d + j) / 64 = d by omega, show (64 * d + j) % 64 = j by omega] at this
    rw [h2 j hj, this, decide_eq_true hj, Bool.true_and]
  · subst hx
    exact Agr.ok hW hI rfl rfl ht hσ.1 hM
/-- the first row with a property, or none -/
def wD (n : Nat) (p : Nat → Bool) (x : Int32) : Prop := (∀ r, r < n → p r = false) ∧ x = -1 ∨ ∃ r, r < n ∧ x = nI r ∧ p r = true ∧ ∀ r', r' < r → p r' = false
theorem wD_one {n : Nat} {p : Nat → Bool} (x y : Int32) (hx : wD n p x) (hy : wD n p y) : x = y := by
  rcases hx with ⟨h1, rfl⟩ | ⟨r, hr, rfl, h3, h4⟩ <;> rcases hy with ⟨h5, rfl⟩ | ⟨r2, hr2, rfl, h6, h7⟩
  · rfl
  · rw [h1 r2 hr2] at h6; cases h6
  · rw [h5 r hr] at h3; cases h3
  · rcases Nat.lt_trichotomy r r2 with q | q | q
    · rw [h7 r q] at h3; cases h3
    · rw [q]
    · rw [h4 r2 q] at h6; cases h6
theorem Agr.res {α : Type} {tbl : List String} {I : Ims} {n k : Nat} {w : Nat → Nat} {C : Nat → Nat → Int64} {M : Nat → Nat → Bool} {q : Int32} {J : St} {co : Option (Except String α × St)} {mo : Option (α × St)} {D : α → Prop} (hD : ∀ x y, D x → D y → x = y) (hW : Wf n k w C M) (hI : ImR I J) (hc : wp co (fun p => ∃ x s1, p = (.ok x, s1) ∧ D x ∧ RC n k w C M q s1)) (hm : wp mo (fun p => ∃ x u1, p = (x, u1) ∧ D x ∧ u1.1 0 0 = 0 ∧ RM n k w C M q J u1)) : Agr tbl (Rl I) co mo := by
  obtain ⟨p, e1, x, s1, rfl, hx, h1⟩ := hc
  obtain ⟨p2, e2, y, u1, rfl, hy, h0, h2⟩ := hm
  have := hD x y hx hy
  subst this
  exact Agr.ok hW hI e1 e2 h0 h1 h2
theorem op_where (I : Ims) (s u : St) (a0 a1 : Int32) (a2 : Int64) (h : Rl I s u) : Agr ["java/lang/IndexOutOfBoundsException"] (Rl I) (c_X3_where s a0 a1 a2) (m_X4_where u a0 a1 a2) := by
  obtain ⟨n, k, w, C, M, q, J, hW, hC, hM0, hI⟩ := h
  unfold c_X3_where m_X4_where
  have hM : RM n k w C M q J (sI u 0 0 0) := hM0.sI0 (Or.inl rfl)
  have ht : (sI u 0 0 0).1 0 0 = 0 := sIs
  generalize sI u 0 0 0 = u0 at hM ht ⊢
  simp only [needMask_eq, needWord_eq, needImage_eq, needColumn_eq hC hW, needRow_eq hC hW, needWidth_eq, xB_gX, isMask_eq, isWord_eq, isColumn_eq hM hW, isRow_eq hM hW, areIn_eq hM hW, isIn_eq, rg_if, needArgument_eq, needState_eq, Option.bind_some, if_bI, fails_eq, t64, I_m192, I_m62, I_m9, I_0, I_1, I_2, I_3, I_5, I_9, I_16, I_62, I_63, I_64, I_192, I_1000, L_m192, L_m62, L_m9, L_0, L_1, L_2, L_3, L_5, L_9, L_16, L_62, L_63, L_64, L_192, L_1000]
  by_cases h1 : inB a0 k = true
  case neg =>
    rw [Bool.not_eq_true] at h1
    simp only [h1, Bool.false_and, Bool.and_false, Bool.and_self, Bool.true_and, Bool.and_true, Bool.false_eq_true, eq_self, if_true, if_false, reduceIte, ite_self]
    exact Agr.err hW hI 0 rfl rfl rfl sIs hC (hM.sI0 (Or.inl rfl))
  by_cases h2 : inB a1 8 = true
  case neg =>
    rw [Bool.not_eq_true] at h2
    simp only [h1, h2, Bool.false_and, Bool.and_false, Bool.and_self, Bool.true_and, Bool.and_true, Bool.false_eq_true, eq_self, if_true, if_false, reduceIte, ite_self]
    exact Agr.err hW hI 0 rfl rfl rfl sIs hC (hM.sI0 (Or.inl rfl))
  simp only [h1, h2, Bool.false_and, Bool.and_false, Bool.and_self, Bool.true_and, Bool.and_true, Bool.false_eq_true, eq_self, if_true, if_false, reduceIte, ite_self]
  obtain ⟨c, hc, rfl⟩ := inB_ex hW.k31 h1
  obtain ⟨m, hm, rfl⟩ := inB_ex (by decide) h2
  have hc6 := hW.c6 hc
  have key : ∀ x y : Int32, wD n (fun r => (C c r != ((-9223372036854775808) : Int64) && M m r) && C c r == a2) x → wD n (fun r => (C c r != ((-9223372036854775808) : Int64) && M m r) && C c r == a2) y → x = y := wD_one
  refine Agr.res (q := q) key hW hI ?_ ?_
  · refine wp_eB (wp_lp n (fun i z => z = nI i ∧ ∀ r', r' < i → ((C c r' != ((-9223372036854775808) : Int64) && M m r') && C c r' == a2) = false) hW.n5 ⟨rfl, fun r' h => absurd h (by omega)⟩ (fun i z hi hJ => ?_) (fun z hJ => ?_))
    · obtain ⟨rfl, h2⟩ := hJ
      simp only [hC.rows, if_neg (ltL n hW.n31 hi), isNumbered_eq hC hW hc hi hm, Option.bind_some, if_bI, ix6 hc6, ix192 (hW.r192 hi), hC.cell hc hi, nI_s]
      by_cases e : (C c i != ((-9223372036854775808) : Int64) && M m i) = true
      · rw [if_pos e]
        by_cases e2 : C c i = a2
        · rw [if_pos e2]
          exact wp_some ⟨_, s, rfl, (Or.inr ⟨i, hi, rfl, by show ((C c i != ((-9223372036854775808) : Int64) && M m i) && C c i == a2) = true; rw [e, e2]; simp, h2⟩), hC⟩
        · rw [if_neg e2]
          exact wp_some ⟨rfl, lt_s h2 (by simp [e2])⟩
      · rw [if_neg e]
        exact wp_some ⟨rfl, lt_s h2 (by rw [Bool.not_eq_true] at e; rw [e, Bool.false_and])⟩
    · obtain ⟨rfl, h2⟩ := hJ
      simp only [hC.rows]
      exact wp_eq (if_pos (geL n hW.n31)) (wp_some ⟨_, s, rfl, (Or.inl ⟨h2, rfl⟩), hC⟩)
  · refine wp_eB (wp_lp n (fun i z => z = nI i ∧ ∀ r', r' < i → ((C c r' != ((-9223372036854775808) : Int64) && M m r') && C c r' == a2) = false) hW.n5 ⟨rfl, fun r' h => absurd h (by omega)⟩ (fun i z hi hJ => ?_) (fun z hJ => ?_))
    · obtain ⟨rfl, h2⟩ := hJ
      simp only [hM.rows, if_neg (ltL n hW.n31 hi), hasUnder_eq hM hW hc (hW.r192 hi) hm, Option.bind_some, if_bI, at_eq, ixA hc6 (hW.r192 hi), nI_s]
      by_cases e : (C c i != ((-9223372036854775808) : Int64) && M m i) = true
      · rw [if_pos e, hM.cell hc hi (nbN (Bool.and_eq_true_iff.mp e).1)]
        by_cases e2 : C c i = a2
        · rw [if_pos e2]
          exact wp_some ⟨_, u0, rfl, (Or.inr ⟨i, hi, rfl, by show ((C c i != ((-9223372036854775808) : Int64) && M m i) && C c i == a2) = true; rw [e, e2]; simp, h2⟩), ht, hM⟩
        · rw [if_neg e2]
          exact wp_some ⟨rfl, lt_s h2 (by simp [e2])⟩
      · rw [if_neg e]
        exact wp_some ⟨rfl, lt_s h2 (by rw [Bool.not_eq_true] at e; rw [e, Bool.false_and])⟩
    · obtain ⟨rfl, h2⟩ := hJ
      simp only [hM.rows]
      exact wp_eq (if_pos (geL n hW.n31)) (wp_some ⟨_, u0, rfl, (Or.inl ⟨h2, rfl⟩), ht, hM⟩)
