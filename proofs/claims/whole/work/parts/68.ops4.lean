/-! ===== row, runs, alike, firsts, mask ===== -/
/-- the k-th row of a mask, how many there are, none -/
theorem row_key {n : Nat} {p : Nat → Bool} {i : Nat} (hn : n ≤ 192) (hi : i < n) : fb_ct p i < 192 := by
  have := fb_ct_le p i
  omega
theorem op_row (I : Ims) (s u : St) (a0 a1 : Int32) (h : Rl I s u) : Agr ["java/lang/IndexOutOfBoundsException"] (Rl I) (c_X3_row s a0 a1) (m_X4_row u a0 a1) := by
  obtain ⟨n, k, w, C, M, q, J, hW, hC, hM0, hI⟩ := h
  unfold c_X3_row m_X4_row
  have hM : RM n k w C M q J (sI u 0 0 0) := hM0.sI0 (Or.inl rfl)
  have ht : (sI u 0 0 0).1 0 0 = 0 := sIs
  generalize sI u 0 0 0 = u0 at hM ht ⊢
  simp only [needMask_eq, needWord_eq, needImage_eq, needColumn_eq hC hW, needRow_eq hC hW, needWidth_eq, xB_gX, isMask_eq, isWord_eq, isColumn_eq hM hW, isRow_eq hM hW, areIn_eq hM hW, isIn_eq, rg_if, needArgument_eq, needState_eq, Option.bind_some, if_bI, fails_eq, t64, I_m192, I_m62, I_m9, I_0, I_1, I_2, I_3, I_5, I_9, I_16, I_62, I_63, I_64, I_192, I_1000, L_m192, L_m62, L_m9, L_0, L_1, L_2, L_3, L_5, L_9, L_16, L_62, L_63, L_64, L_192, L_1000]
  by_cases h1 : inB a0 8 = true
  case neg =>
    rw [Bool.not_eq_true] at h1
    simp only [h1, Bool.false_and, Bool.and_false, Bool.and_self, Bool.true_and, Bool.and_true, Bool.false_eq_true, eq_self, if_true, if_false, reduceIte, ite_self]
    exact Agr.err hW hI 0 rfl rfl rfl sIs hC (hM.sI0 (Or.inl rfl))
  simp only [h1, Bool.false_and, Bool.and_false, Bool.and_self, Bool.true_and, Bool.and_true, Bool.false_eq_true, eq_self, if_true, if_false, reduceIte, ite_self]
  obtain ⟨m, hm, rfl⟩ := inB_ex (by decide) h1
  have hn := hW.hn
  by_cases ha : a1 = -1
  · subst ha
    simp only [Bool.false_and, Bool.and_false, Bool.and_self, Bool.true_and, Bool.and_true, Bool.false_eq_true, eq_self, if_true, if_false, reduceIte, ite_self]
    rw [maskCount_eq _ hm, Option.bind_some]
    have e1 : fb_ct (fun r => lb (s.2 (11 + m) (r / 64)) (r % 64)) 192 = fb_ct (M m) n := by
      rw [fb_ct_cong (q := M m) (fun r hr => hC.bit hm hr), show 192 = n + (192 - n) by omega, fb_ct_split]
      have : fb_ct (fun x => M m (n + x)) (192 - n) = 0 := fb_ct_zero.mpr (fun x hx => by
        cases e : M m (n + x)
        · rfl
        · exact absurd (hW.hm hm e) (by omega))
      rw [this, Nat.add_zero]
    rw [e1]
    refine Agr.ok hW hI rfl (wp_val (wp_eB (wp_lp n (fun i (z : Int32 × Int32) => z = (nI (fb_ct (M m) i), nI i)) hW.n5 rfl (fun i z hi hJ => ?_) (fun z hJ => ?_)))) ht hC hM
    · subst hJ
      have h192 := hW.r192 hi
      have hct := row_key (p := M m) hn hi
      simp only [hM.rows, if_neg (ltL n hW.n31 hi), at_eq, ixB hm h192, Option.bind_some, hM.msk hm h192, if_bI, nI_s]
      cases e : M m i with
      | false => exact wp_some (show (_, _) = _ by rw [fb_ct_succ, e]; rfl)
      | true =>
        simp only [Bool.false_and, Bool.and_false, Bool.and_self, Bool.true_and, Bool.and_true, Bool.false_eq_true, eq_self, if_true, if_false, reduceIte, ite_self]
        rw [if_neg (show ¬ nI (fb_ct (M m) i) = -1 from fun q => by
          have := congrArg Int32.toInt q
          rw [nI_toInt (by omega)] at this
          have h1 : (-1 : Int32).toInt = -1 := by decide
          omega)]
        exact wp_some (show (_, _) = _ by rw [fb_ct_succ, e]; rfl)
    · subst hJ
      simp only [hM.rows]
      exact wp_eq (if_pos (geL n hW.n31)) (wp_some rfl)
  · simp only [if_neg ha]
    have D1 : ∀ x y : Int32, wD n (fun r => M m r && nI (fb_ct (M m) r) == a1) x → wD n (fun r => M m r && nI (fb_ct (M m) r) == a1) y → x = y := wD_one
    refine Agr.res (q := q) D1 hW hI ?_ ?_
    · refine wp_eB (wp_lp n (fun i (z : Int32 × Int32) => z = (nI (fb_ct (M m) i), nI i) ∧ ∀ r', r' < i → (M m r' && nI (fb_ct (M m) r') == a1) = false) hW.n5 ⟨rfl, fun r' h => absurd h (by omega)⟩ (fun i z hi hJ => ?_) (fun z hJ => ?_))
      · obtain ⟨rfl, h2⟩ := hJ
        have h192 := hW.r192 hi
        simp only [hC.rows, if_neg (ltL n hW.n31 hi), isUnder_eq hC hm h192, Option.bind_some, if_bI, nI_s]
        cases e : M m i with
        | false => exact wp_some ⟨show (_, _) = _ by rw [fb_ct_succ, e]; rfl, lt_s h2 (by rw [e]; rfl)⟩
        | true =>
          simp only [Bool.false_and, Bool.and_false, Bool.and_self, Bool.true_and, Bool.and_true, Bool.false_eq_true, eq_self, if_true, if_false, reduceIte, ite_self]
          by_cases e2 : nI (fb_ct (M m) i) = a1
          · rw [if_pos e2]
            exact wp_some ⟨_, s, rfl, Or.inr ⟨i, hi, rfl, by simp [e, e2], h2⟩, hC⟩
          · rw [if_neg e2]
            exact wp_some ⟨show (_, _) = _ by rw [fb_ct_succ, e]; rfl, lt_s h2 (by simp [e2])⟩
      · obtain ⟨rfl, h2⟩ := hJ
        simp only [hC.rows]
        exact wp_eq (if_pos (geL n hW.n31)) (wp_some ⟨_, s, rfl, Or.inl ⟨h2, rfl⟩, hC⟩)
    · refine wp_eB (wp_lp n (fun i (z : Int32 × Int32) => z = (nI (fb_ct (M m) i), nI i) ∧ ∀ r', r' < i → (M m r' && nI (fb_ct (M m) r') == a1) = false) hW.n5 ⟨rfl, fun r' h => absurd h (by omega)⟩ (fun i z hi hJ => ?_) (fun z hJ => ?_))
      · obtain ⟨rfl, h2⟩ := hJ
        have h192 := hW.r192 hi
        simp only [hM.rows, if_neg (ltL n hW.n31 hi), at_eq, ixB hm h192, Option.bind_some, hM.msk hm h192, if_bI, nI_s]
        cases e : M m i with
        | false => exact wp_some ⟨show (_, _) = _ by rw [fb_ct_succ, e]; rfl, lt_s h2 (by rw [e]; rfl)⟩
        | true =>
          simp only [Bool.false_and, Bool.and_false, Bool.and_self, Bool.true_and, Bool.and_true, Bool.false_eq_true, eq_self, if_true, if_false, reduceIte, ite_self]
          by_cases e2 : nI (fb_ct (M m) i) = a1
          · rw [if_pos e2]
            exact wp_some ⟨_, u0, rfl, Or.inr ⟨i, hi, rfl, by simp [e, e2], h2⟩, ht, hM⟩
          · rw [if_neg e2]
            exact wp_some ⟨show (_, _) = _ by rw [fb_ct_succ, e]; rfl, lt_s h2 (by simp [e2])⟩
      · obtain ⟨rfl, h2⟩ := hJ
        simp only [hM.rows]
        exact wp_eq (if_pos (geL n hW.n31)) (wp_some ⟨_, u0, rfl, Or.inl ⟨h2, rfl⟩, ht, hM⟩)
/-- one turn of the loop over runs -/
def rnS (b : Bool) (i : Nat) (z : Int32 × Int32 × Int32 × Int32) : Int32 × Int32 × Int32 × Int32 :=
  let t := if b then z.2.2.2 + 1 else 0
  (if t = 1 then z.1 + 1 else z.1, if t ≤ z.2.1 then z.2.1 else t, if t ≤ z.2.1 then z.2.2.1 else (nI i - t) + 1, t)
def rnR (p : Nat → Bool) : Nat → Int32 × Int32 × Int32 × Int32
  | 0 => (0, 0, -1, 0)
  | i + 1 => rnS (p i) i (rnR p i)
theorem op_runs (I : Ims) (s u : St) (a0 a1 : Int32) (h : Rl I s u) : Agr ["java/lang/IndexOutOfBoundsException", "java/lang/IllegalArgumentException"] (Rl I) (c_X3_runs s a0 a1) (m_X4_runs u a0 a1) := by
  obtain ⟨n, k, w, C, M, q, J, hW, hC, hM0, hI⟩ := h
  unfold c_X3_runs m_X4_runs
  have hM : RM n k w C M q J (sI u 0 0 0) := hM0.sI0 (Or.inl rfl)
  have ht : (sI u 0 0 0).1 0 0 = 0 := sIs
  generalize sI u 0 0 0 = u0 at hM ht ⊢
  simp only [needMask_eq, needWord_eq, needImage_eq, needColumn_eq hC hW, needRow_eq hC hW, needWidth_eq, xB_gX, isMask_eq, isWord_eq, isColumn_eq hM hW, isRow_eq hM hW, areIn_eq hM hW, isIn_eq, rg_if, needArgument_eq, needState_eq, Option.bind_some, if_bI, fails_eq, t64, I_m192, I_m62, I_m9, I_0, I_1, I_2, I_3, I_5, I_9, I_16, I_62, I_63, I_64, I_192, I_1000, L_m192, L_m62, L_m9, L_0, L_1, L_2, L_3, L_5, L_9, L_16, L_62, L_63, L_64, L_192, L_1000]
  by_cases h1 : inB a0 8 = true
  case neg =>
    rw [Bool.not_eq_true] at h1
    simp only [h1, Bool.false_and, Bool.and_false, Bool.and_self, Bool.true_and, Bool.and_true, Bool.false_eq_true, eq_self, if_true, if_false, reduceIte, ite_self]
    exact Agr.err hW hI 0 rfl rfl rfl sIs hC (hM.sI0 (Or.inl rfl))
  by_cases h2 : rg a1.toInt 0 2 = true
  case neg =>
    rw [Bool.not_eq_true] at h2
    simp only [h1, h2, Bool.false_and, Bool.and_false, Bool.and_self, Bool.true_and, Bool.and_true, Bool.false_eq_true, eq_self, if_true, if_false, reduceIte, ite_self]
    exact Agr.err hW hI 1 rfl rfl rfl sIs hC (hM.sI0 (Or.inl rfl))
  simp only [h1, h2, Bool.false_and, Bool.and_false, Bool.and_self, Bool.true_and, Bool.and_true, Bool.false_eq_true, eq_self, if_true, if_false, reduceIte, ite_self]
  obtain ⟨m, hm, rfl⟩ := inB_ex (by decide) h1
  rw [lp_g (fun i => ((rnR (M m) i).1, (rnR (M m) i).2.1, (rnR (M m) i).2.2.1, (rnR (M m) i).2.2.2, nI i)) n ((rnR (M m) n).1, (rnR (M m) n).2.1, (rnR (M m) n).2.2.1) ?_ hW.n5 ?_ ?_]
  rw [lp_g (fun i => ((rnR (M m) i).1, (rnR (M m) i).2.1, (rnR (M m) i).2.2.1, (rnR (M m) i).2.2.2, nI i)) n ((rnR (M m) n).1, (rnR (M m) n).2.1, (rnR (M m) n).2.2.1) ?_ hW.n5 ?_ ?_]
  · simp only [Option.bind_some]
    by_cases e1 : a1 = 0
    · simp only [if_pos e1]
      exact Agr.ok hW hI rfl rfl ht hC hM
    · simp only [if_neg e1]
      by_cases e2 : a1 = 1
      · simp only [if_pos e2]
        exact Agr.ok hW hI rfl rfl ht hC hM
      · simp only [if_neg e2]
        exact Agr.ok hW hI rfl rfl ht hC hM
  · rfl
  · intro i hi
    have h192 := hW.r192 hi
    simp only [hM.rows, if_neg (ltL n hW.n31 hi), at_eq, ixB hm h192, Option.bind_some, hM.msk hm h192, if_bI, nI_s]
    rw [show rnR (M m) (i + 1) = rnS (M m i) i (rnR (M m) i) from rfl]
    generalize rnR (M m) i = z
    obtain ⟨z1, z2, z3, z4⟩ := z
    unfold rnS
    have hlt : ∀ t : Int32, (z2 < t) = ¬ (t ≤ z2) := fun t => by
      rw [fa_lt, fa_le]
      exact propext ⟨fun _ => by omega, fun _ => by omega⟩
    cases M m i with
    | false =>
      simp only [Bool.false_and, Bool.and_false, Bool.and_self, Bool.true_and, Bool.and_true, Bool.false_eq_true, eq_self, if_true, if_false, reduceIte, ite_self, Option.bind_some, hlt]
      by_cases q1 : (0 : Int32) ≤ z2
      · simp [q1, m_X4_flag]
      · simp [q1, m_X4_flag]
    | true =>
      simp only [Bool.false_and, Bool.and_false, Bool.and_self, Bool.true_and, Bool.and_true, Bool.false_eq_true, eq_self, if_true, if_false, reduceIte, ite_self, Option.bind_some, hlt]
      generalize z4 + 1 = t
      by_cases q1 : t ≤ z2 <;> simp only [q1, not_true_eq_false, not_false_eq_true, if_true, if_false, Option.bind_some] <;> by_cases q0 : t = 1 <;> simp [q0, m_X4_flag]
  · simp only [hM.rows]
    exact if_pos (geL n hW.n31)
  · rfl
  · intro i hi
    have h192 := hW.r192 hi
    simp only [hC.rows, if_neg (ltL n hW.n31 hi), isUnder_eq hC hm h192, Option.bind_some, if_bI, nI_s]
    rw [show rnR (M m) (i + 1) = rnS (M m i) i (rnR (M m) i) from rfl]
    generalize rnR (M m) i = z
    obtain ⟨z1, z2, z3, z4⟩ := z
    unfold rnS
    cases M m i with
    | false =>
      simp only [Bool.false_and, Bool.and_false, Bool.and_self, Bool.true_and, Bool.and_true, Bool.false_eq_true, eq_self, if_true, if_false, reduceIte, ite_self, Option.bind_some]
      by_cases q1 : (0 : Int32) ≤ z2
      · simp [q1]
      · simp [q1]
    | true =>
      simp only [Bool.false_and, Bool.and_false, Bool.and_self, Bool.true_and, Bool.and_true, Bool.false_eq_true, eq_self, if_true, if_false, reduceIte, ite_self, Option.bind_some]
      generalize z4 + 1 = t
      by_cases q1 : t ≤ z2 <;> simp only [q1, if_true, if_false, Option.bind_some] <;> by_cases q0 : t = 1 <;> simp [q0]
  · simp only [hC.rows]
    exact if_pos (geL n hW.n31)
/-- rows that are alike -/
def alk (k : Nat) (C : Nat → Nat → Int64) (a b : Nat) : Bool := decide (∀ c, c < k → C c a = C c b)
theorem alk_t {k : Nat} {C : Nat → Nat → Int64} {a b : Nat} (h : alk k C a b = true) : ∀ c, c < k → C c a = C c b := by
  unfold alk at h
  exact of_decide_eq_true h
theorem areAlike_eq {n k : Nat} {w : Nat → Nat} {C : Nat → Nat → Int64} {M : Nat → Nat → Bool} {q : Int32} {σ : St} {a b : Nat} (h : RC n k w C M q σ) (hW : Wf n k w C M) (ha : a < n) (hb : b < n) : c_X1_areAlike σ (nI a) (nI b) = some (bI (alk k C a b)) := by
  unfold c_X1_areAlike
  refine wp_val (wp_eB (wp_lp k (fun i z => z = nI i ∧ ∀ c, c < i → C c a = C c b) (by have := hW.hk; omega) ⟨rfl, fun c h => absurd h (by omega)⟩ (fun i z hi hJ => ?_) (fun z hJ => ?_)))
  · obtain ⟨rfl, h2⟩ := hJ
    have hi6 := hW.c6 hi
    simp only [h.cols, if_neg (ltL k hW.k31 hi), ix6 hi6, ix192 (hW.r192 ha), ix192 (hW.r192 hb), Option.bind_some, h.cell hi ha, h.cell hi hb, nI_s]
    by_cases e : C i a = C i b
    · rw [if_pos e]
      exact wp_some ⟨rfl, lt_s h2 e⟩
    · rw [if_neg e]
      refine wp_some ?_
      show nz 0 = bI (alk k C a b)
      rw [show alk k C a b = false from decide_eq_false (fun q => e (q i hi))]
      rfl
  · obtain ⟨rfl, h2⟩ := hJ
    simp only [h.cols]
    refine wp_eq (if_pos (geL k hW.k31)) (wp_some ?_)
    show nz 1 = bI (alk k C a b)
    rw [show alk k C a b = true from decide_eq_true h2]
    rfl
theorem mAlike_eq {n k : Nat} {w : Nat → Nat} {C : Nat → Nat → Int64} {M : Nat → Nat → Bool} {q : Int32} {J u : St} {a b : Nat} (h : RM n k w C M q J u) (hW : Wf n k w C M) (ha : a < n) (hb : b < n) : m_X4_areAlike u (nI a) (nI b) = some (bI (alk k C a b)) := by
  unfold m_X4_areAlike
  refine wp_val (wp_eB (wp_lp k (fun i z => z = nI i ∧ ∀ c, c < i → C c a = C c b) (by have := hW.hk; omega) ⟨rfl, fun c h => absurd h (by omega)⟩ (fun i z hi hJ => ?_) (fun z hJ => ?_)))
  · obtain ⟨rfl, h2⟩ := hJ
    have hi6 := hW.c6 hi
    have a2 := hW.r192 ha
    have b2 := hW.r192 hb
    simp only [h.cols, if_neg (ltL k hW.k31 hi), at_eq, ixA hi6 a2, ixA hi6 b2, Option.bind_some, h.has' hW hi ha, h.has' hW hi hb, bI_inj, if_bI, nI_s]
    have no : C i a ≠ C i b → lpP (fun z => z = nI (i + 1) ∧ ∀ c, c < i + 1 → C c a = C c b) (lpP (fun _ : Unit => wp (some (nz 1)) fun x => x = bI (alk k C a b)) (fun x => x = bI (alk k C a b))) (.inr (.inr (nz 0))) := fun e => by
      show nz 0 = bI (alk k C a b)
      rw [show alk k C a b = false from decide_eq_false (fun q => e (q i hi))]
      rfl
    by_cases eb : (C i a != ((-9223372036854775808) : Int64)) = (C i b != ((-9223372036854775808) : Int64))
    · rw [if_pos eb]
      by_cases e : C i a = ((-9223372036854775808) : Int64)
      · have e2 : C i b = ((-9223372036854775808) : Int64) := by
          rw [e, bne_self_eq_false] at eb
          simpa using eb.symm
        simp only [e, bne_self_eq_false, Bool.false_and, Bool.and_false, Bool.and_self, Bool.true_and, Bool.and_true, Bool.false_eq_true, eq_self, if_true, if_false, reduceIte, ite_self]
        exact wp_some ⟨rfl, lt_s h2 (by rw [e, e2])⟩
      · have e1 : (C i a != ((-9223372036854775808) : Int64)) = true := by simpa using e
        have e2 : C i b ≠ ((-9223372036854775808) : Int64) := nbN (by rw [← eb]; exact e1)
        simp only [e1, Bool.false_and, Bool.and_false, Bool.and_self, Bool.true_and, Bool.and_true, Bool.false_eq_true, eq_self, if_true, if_false, reduceIte, ite_self]
        rw [h.cell hi ha e, h.cell hi hb e2]
        by_cases e3 : C i a = C i b
        · rw [if_pos e3]
          exact wp_some ⟨rfl, lt_s h2 e3⟩
        · rw [if_neg e3]
          exact wp_some (no e3)
    · rw [if_neg eb]
      exact wp_some (no (fun q => eb (by rw [q])))
  · obtain ⟨rfl, h2⟩ := hJ
    simp only [h.cols]
    refine wp_eq (if_pos (geL k hW.k31)) (wp_some ?_)
    show nz 1 = bI (alk k C a b)
    rw [show alk k C a b = true from decide_eq_true h2]
    rfl
theorem op_alike (I : Ims) (s u : St) (a0 a1 : Int32) (h : Rl I s u) : Agr ["java/lang/IndexOutOfBoundsException"] (Rl I) (c_X3_alike s a0 a1) (m_X4_alike u a0 a1) := by
  obtain ⟨n, k, w, C, M, q, J, hW, hC, hM0, hI⟩ := h
  unfold c_X3_alike m_X4_alike
  have hM : RM n k w C M q J (sI u 0 0 0) := hM0.sI0 (Or.inl rfl)
  have ht : (sI u 0 0 0).1 0 0 = 0 := sIs
  generalize sI u 0 0 0 = u0 at hM ht ⊢
  simp only [needMask_eq, needWord_eq, needImage_eq, needColumn_eq hC hW, needRow_eq hC hW, needWidth_eq, xB_gX, isMask_eq, isWord_eq, isColumn_eq hM hW, isRow_eq hM hW, areIn_eq hM hW, isIn_eq, rg_if, needArgument_eq, needState_eq, Option.bind_some, if_bI, fails_eq, t64, I_m192, I_m62, I_m9, I_0, I_1, I_2, I_3, I_5, I_9, I_16, I_62, I_63, I_64, I_192, I_1000, L_m192, L_m62, L_m9, L_0, L_1, L_2, L_3, L_5, L_9, L_16, L_62, L_63, L_64, L_192, L_1000]
  by_cases h1 : inB a0 n = true
  case neg =>
    rw [Bool.not_eq_true] at h1
    simp only [h1, Bool.false_and, Bool.and_false, Bool.and_self, Bool.true_and, Bool.and_true, Bool.false_eq_true, eq_self, if_true, if_false, reduceIte, ite_self]
    exact Agr.err hW hI 0 rfl rfl rfl sIs hC (hM.sI0 (Or.inl rfl))
  by_cases h2 : inB a1 n = true
  case neg =>
    rw [Bool.not_eq_true] at h2
    simp only [h1, h2, Bool.false_and, Bool.and_false, Bool.and_self, Bool.true_and, Bool.and_true, Bool.false_eq_true, eq_self, if_true, if_false, reduceIte, ite_self]
    exact Agr.err hW hI 0 rfl rfl rfl sIs hC (hM.sI0 (Or.inl rfl))
  simp only [h1, h2, Bool.false_and, Bool.and_false, Bool.and_self, Bool.true_and, Bool.and_true, Bool.false_eq_true, eq_self, if_true, if_false, reduceIte, ite_self]
  obtain ⟨a, ha, rfl⟩ := inB_ex hW.n31 h1
  obtain ⟨b, hb, rfl⟩ := inB_ex hW.n31 h2
  rw [areAlike_eq hC hW ha hb, mAlike_eq hM hW ha hb, Option.bind_some, Option.bind_some, flag_eq, Option.bind_some, if_bI, show (if alk k C a b = true then some (1 : Int32) else some 0) = some (bI (alk k C a b)) by cases alk k C a b <;> rfl, Option.bind_some]
  exact Agr.ok hW hI rfl rfl ht hC hM
/-- the first of those that are alike -/
def fst1 (k : Nat) (C : Nat → Nat → Int64) (p : Nat → Bool) (r : Nat) : Bool := p r && decide (∀ r', r' < r → p r' = true → alk k C r' r = false)
theorem fst1_one {k : Nat} {C : Nat → Nat → Int64} {p : Nat → Bool} : ∀ r r', r' < r → p r' = true → alk k C r' r = true → ∃ r2, r2 < r ∧ fst1 k C p r2 = true ∧ alk k C r2 r = true := by
  intro r r'
  induction r' using Nat.strongRecOn with
  | _ r' ih =>
    intro h1 h2 h3
    by_cases hx : ∃ x, x < r' ∧ p x = true ∧ alk k C x r' = true
    · obtain ⟨x, hx1, hx2, hx3⟩ := hx
      refine ih x hx1 (by omega) hx2 (decide_eq_true fun c hc => ?_)
      rw [alk_t hx3 c hc, alk_t h3 c hc]
    · refine ⟨r', h1, ?_, h3⟩
      unfold fst1
      rw [h2, Bool.true_and]
      refine decide_eq_true fun x hx1 hx2 => ?_
      cases e : alk k C x r'
      · rfl
      · exact absurd ⟨x, hx1, hx2, e⟩ hx
theorem op_firsts (I : Ims) (s u : St) (a0 a1 : Int32) (h : Rl I s u) : Agr ["java/lang/IndexOutOfBoundsException"] (Rl I) (c_X3_firsts s a0 a1) (m_X4_firsts u a0 a1) := by
  obtain ⟨n, k, w, C, M, q, J, hW, hC, hM0, hI⟩ := h
  unfold c_X3_firsts m_X4_firsts
  have hM : RM n k w C M q J (sI u 0 0 0) := hM0.sI0 (Or.inl rfl)
  have ht : (sI u 0 0 0).1 0 0 = 0 := sIs
  generalize sI u 0 0 0 = u0 at hM ht ⊢
  simp only [needMask_eq, needWord_eq, needImage_eq, needColumn_eq hC hW, needRow_eq hC hW, needWidth_eq, xB_gX, isMask_eq, isWord_eq, isColumn_eq hM hW, isRow_eq hM hW, areIn_eq hM hW, isIn_eq, rg_if, needArgument_eq, needState_eq, Option.bind_some, if_bI, fails_eq, t64, I_m192, I_m62, I_m9, I_0, I_1, I_2, I_3, I_5, I_9, I_16, I_62, I_63, I_64, I_192, I_1000, L_m192, L_m62, L_m9, L_0, L_1, L_2, L_3, L_5, L_9, L_16, L_62, L_63, L_64, L_192, L_1000]
  by_cases h1 : inB a0 8 = true
  case neg =>
    rw [Bool.not_eq_true] at h1
    simp only [h1, Bool.false_and, Bool.and_false, Bool.and_self, Bool.true_and, Bool.and_true, Bool.false_eq_true, eq_self, if_true, if_false, reduceIte, ite_self]
    exact Agr.err hW hI 0 rfl rfl rfl sIs hC (hM.sI0 (Or.inl rfl))
  by_cases h2 : inB a1 8 = true
  case neg =>
    rw [Bool.not_eq_true] at h2
    simp only [h1, h2, Bool.false_and, Bool.and_false, Bool.and_self, Bool.true_and, Bool.and_true, Bool.false_eq_true, eq_self, if_true, if_false, reduceIte, ite_self]
    exact Agr.err hW hI 0 rfl rfl rfl sIs hC (hM.sI0 (Or.inl rfl))
  simp only [h1, h2, Bool.false_and, Bool.and_false, Bool.and_self, Bool.true_and, Bool.and_true, Bool.false_eq_true, eq_self, if_true, if_false, reduceIte, ite_self]
  obtain ⟨m, hm, rfl⟩ := inB_ex (by decide) h1
  obtain ⟨m2, hm2, rfl⟩ := inB_ex (by decide) h2
  rw [begin_eq, Option.bind_some]
  refine Agr.bindC (cmade (fun r => fst1 k C (M m2) r) hW (hC.oc (i := 26) (by decide) fL_oc) Mk_begin (fun i σ' hi hC' hMk => ?_) (fun σ' hC' => ?_)) (fun σ' hσ => ?_)
  · have h192 := hW.r192 hi
    have like : c_X3_isLikeOneMade σ' (nI i) = some (bI (!decide (∀ r', r' < i → M m2 r' = true → alk k C r' i = false))) := by
      unfold c_X3_isLikeOneMade
      refine wp_val (wp_eB (wp_lp i (fun j z => z = nI j ∧ ∀ r', r' < j → fst1 k C (M m2) r' = true → alk k C r' i = false) (by omega) ⟨rfl, fun c h => absurd h (by omega)⟩ (fun j z hj hJ => ?_) (fun z hJ => ?_)))
      · obtain ⟨rfl, h2⟩ := hJ
        have hjn : j < n := by omega
        simp only [if_neg (ltL i (by omega) hj), cIsIn_eq σ' 26 (hW.r192 hjn), Option.bind_some, hMk j (hW.r192 hjn), if_bI, areAlike_eq hC' hW hjn hi, decide_eq_true hj, Bool.true_and, nI_s]
        cases e : fst1 k C (M m2) j with
        | false =>
          simp only [Bool.false_and, Bool.and_false, Bool.and_self, Bool.true_and, Bool.and_true, Bool.false_eq_true, eq_self, if_true, if_false, reduceIte, ite_self]
          exact wp_some ⟨rfl, lt_s h2 (fun q => by rw [e] at q; cases q)⟩
        | true =>
          simp only [Bool.false_and, Bool.and_false, Bool.and_self, Bool.true_and, Bool.and_true, Bool.false_eq_true, eq_self, if_true, if_false, reduceIte, ite_self]
          cases e2 : alk k C j i with
          | false =>
            simp only [Bool.false_and, Bool.and_false, Bool.and_self, Bool.true_and, Bool.and_true, Bool.false_eq_true, eq_self, if_true, if_false, reduceIte, ite_self]
            exact wp_some ⟨rfl, lt_s h2 (fun _ => e2)⟩
          | true =>
            simp only [Bool.false_and, Bool.and_false, Bool.and_self, Bool.true_and, Bool.and_true, Bool.false_eq_true, eq_self, if_true, if_false, reduceIte, ite_self]
            refine wp_some ?_
            show nz 1 = _
            rw [decide_eq_false (show ¬ ∀ r', r' < i → M m2 r' = true → alk k C r' i = false from fun q => by
              unfold fst1 at e
              have := q j hj (Bool.and_eq_true_iff.mp e).1
              rw [e2] at this
              cases this)]
            rfl
      · obtain ⟨rfl, h2⟩ := hJ
        refine wp_eq (if_pos (geL i (by omega))) (wp_some ?_)
        show nz 0 = _
        rw [decide_eq_true (show ∀ r', r' < i → M m2 r' = true → alk k C r' i = false from fun r' h3 h4 => by
          cases e : alk k C r' i
          · rfl
          · obtain ⟨r2, q1, q2, q3⟩ := fst1_one i r' h3 h4 e
            rw [h2 r2 q1 q2] at q3
            cases q3)]
        rfl
    simp only [hC'.rows, if_neg (ltL n hW.n31 hi), isUnder_eq hC' hm2 h192, Option.bind_some, if_bI, like, include_eq hC' hW hi, nI_s]
    unfold fst1
    cases M m2 i <;> cases decide (∀ r', r' < i → M m2 r' = true → alk k C r' i = false) <;> rfl
  · simp only [hC'.rows]
    exact if_pos (geL n hW.n31)
  -- the reference
  have lays : m_X4_laysNone u0 = some (fI u0 5 0 (fun _ => bI false) 192) := by
    unfold m_X4_laysNone
    rw [mmade (fun _ => false) hM (fun i u' hi hM' => ?_) (fun u' => if_pos ge192), Option.bind_some]
    simp only [if_neg (lt192 hi), ix192 hi, Option.bind_some, nI_s, nz_0]
  rw [lays, Option.bind_some]
  refine Agr.bindM (P := fun u' => RM n k w C M q J u' ∧ u'.1 0 0 = 0 ∧ ∀ r, r < n → u'.1 5 r = bI (fst1 k C (M m2) r)) (wp_lp n (fun i (z : Int32 × St) => z.1 = nI i ∧ RM n k w C M q J z.2 ∧ z.2.1 0 0 = 0 ∧ ∀ r, r < i → z.2.1 5 r = bI (fst1 k C (M m2) r)) hW.n5 ⟨rfl, show RM n k w C M q J (fI u0 5 0 (fun _ => bI false) 192) from hM.oc (i := 5) (by decide) fI_oc, ht, fun r h => absurd h (by omega)⟩ (fun i z hi hJ => ?_) (fun z hJ => ?_)) (fun u' hu => ?_)
  · obtain ⟨z1, u'⟩ := z
    obtain ⟨hz, hM', ht', h2⟩ := hJ
    simp only at hz hM' ht' h2
    subst hz
    have h192 := hW.r192 hi
    have isF : m_X4_isFirst u' (nI i) (nI m2) = some (bI (fst1 k C (M m2) i)) := by
      unfold m_X4_isFirst
      refine wp_val (wp_eB (wp_lp i (fun j z => z = nI j ∧ ∀ r', r' < j → M m2 r' = true → alk k C r' i = false) (by omega) ⟨rfl, fun c h => absurd h (by omega)⟩ (fun j z hj hJ => ?_) (fun z hJ => ?_)))
      · obtain ⟨rfl, h2⟩ := hJ
        have hjn : j < n := by omega
        have hj2 := hW.r192 hjn
        simp only [if_neg (ltL i (by omega) hj), at_eq, ixB hm2 hj2, Option.bind_some, hM'.msk hm2 hj2, if_bI, mAlike_eq hM' hW hjn hi, nI_s]
        cases e : M m2 j with
        | false =>
          simp only [Bool.false_and, Bool.and_false, Bool.and_self, Bool.true_and, Bool.and_true, Bool.false_eq_true, eq_self, if_true, if_false, reduceIte, ite_self]
          exact wp_some ⟨rfl, lt_s h2 (fun q => by rw [e] at q; cases q)⟩
        | true =>
          simp only [Bool.false_and, Bool.and_false, Bool.and_self, Bool.true_and, Bool.and_true, Bool.false_eq_true, eq_self, if_true, if_false, reduceIte, ite_self]
          cases e2 : alk k C j i with
          | false =>
            simp only [Bool.false_and, Bool.and_false, Bool.and_self, Bool.true_and, Bool.and_true, Bool.false_eq_true, eq_self, if_true, if_false, reduceIte, ite_self]
            exact wp_some ⟨rfl, lt_s h2 (fun _ => e2)⟩
          | true =>
            simp only [Bool.false_and, Bool.and_false, Bool.and_self, Bool.true_and, Bool.and_true, Bool.false_eq_true, eq_self, if_true, if_false, reduceIte, ite_self]
            refine wp_some ?_
            show nz 0 = _
            unfold fst1
            rw [decide_eq_false (show ¬ ∀ r', r' < i → M m2 r' = true → alk k C r' i = false from fun q => by
              have := q j hj e
              rw [e2] at this
              cases this), Bool.and_false]
            rfl
      · obtain ⟨rfl, h2⟩ := hJ
        refine wp_eq (if_pos (geL i (by omega))) ?_
        show wp _ _
        rw [at_eq, Option.bind_some, ixB hm2 h192, Option.bind_some, hM'.msk hm2 h192, nz_bI]
        refine wp_some ?_
        unfold fst1
        rw [decide_eq_true h2, Bool.and_true]
    simp only [hM'.rows, if_neg (ltL n hW.n31 hi), isF, Option.bind_some, ix192 h192, nz_bI, nI_s]
    refine wp_some ⟨rfl, hM'.sIx (by decide) (by decide), ht', fun r hr => ?_⟩
    show (sI u' 5 i (bI (fst1 k C (M m2) i))).1 5 r = _
    by_cases e : r = i
    · subst e; exact sIs
    · rw [sIn (by omega)]; exact h2 r (by omega)
  · obtain ⟨z1, u'⟩ := z
    obtain ⟨hz, hM', ht', h2⟩ := hJ
    simp only at hz hM' ht' h2
    subst hz
    simp only [hM'.rows]
    exact wp_eq (if_pos (geL n hW.n31)) ⟨hM', ht', h2⟩
  · exact mask_end hW hI hσ.1 hσ.2 hu.1 hu.2.2 hu.2.1 hm
