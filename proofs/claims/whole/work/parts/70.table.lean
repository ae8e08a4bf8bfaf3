/-! ===== operations on the table ===== -/
def upC (C : Nat → Nat → Int64) (c r : Nat) (v : Int64) : Nat → Nat → Int64 := fun a b => if a = c ∧ b = r then v else C a b
def upW (w : Nat → Nat) (c v : Nat) : Nat → Nat := fun a => if a = c then v else w a
section TAB
variable {n k : Nat} {w : Nat → Nat} {C : Nat → Nat → Int64} {M : Nat → Nat → Bool} {q : Int32} {σ τ u u' J : St} {c r m : Nat} {v : Int64}
theorem rc_set (h : RC n k w C M q σ) (hc : c < k) : RC n k w (upC C c r v) M q (sL σ (4 + c) r v) := by
  have hk := h.1.1
  refine ⟨h.1, h.cols, h.kept, fun c hc => h.wid hc, fun a b ha hb => ?_, fun a b ha hb => ?_⟩
  · unfold upC
    rw [sL2]
    by_cases e : a = c ∧ b = r
    · rw [if_pos e, if_pos (by omega)]
    · rw [if_neg e, if_neg (by omega)]
      exact h.cell ha hb
  · rw [sLn (by omega)]
    exact h.bit ha hb
theorem Wf.setCell (h : Wf n k w C M) (hf : v = ((-9223372036854775808) : Int64) ∨ Fit (w c) v) : Wf n k w (upC C c r v) M := by
  refine ⟨h.1, h.2.1, h.2.2.1, fun a b ha hb => ?_, h.2.2.2.2⟩
  unfold upC
  by_cases e : a = c ∧ b = r
  · rw [if_pos e, e.1]; exact hf
  · rw [if_neg e]; exact h.hf ha hb
theorem RM.setCell (h : RM n k w C M q J u) (hr : r < n) (hn : n ≤ 192) (hv : v ≠ ((-9223372036854775808) : Int64)) : RM n k w (upC C c r v) M q J (sL (sI u 2 (192 * c + r) (bI true)) 1 (192 * c + r) v) := by
  refine ⟨h.rows, h.cols, h.kept, fun a ha => h.wid ha, fun a b ha hb => ?_, fun a b ha hb hN => ?_, fun a b ha hb => h.msk ha hb, fun i hi => ⟨(sI_ne (by omega)).trans (h.img hi).1, (sL_ne (by omega)).trans (h.img hi).2⟩⟩
  · show (sI u 2 (192 * c + r) (bI true)).1 2 (192 * a + b) = _
    unfold upC
    rw [sI1]
    by_cases e : a = c ∧ b = r
    · rw [if_pos (by omega), if_pos e]
      have : (v != ((-9223372036854775808) : Int64)) = true := by simpa using hv
      rw [this, decide_eq_true (show b < n by omega)]
      rfl
    · rw [if_neg (by omega), if_neg e]
      exact h.has ha hb
  · rw [sL2]
    unfold upC at hN ⊢
    by_cases e : a = c ∧ b = r
    · rw [if_pos (by omega), if_pos e]
    · rw [if_neg (by omega), if_neg e]
      rw [if_neg e] at hN
      exact h.cell ha hb hN
theorem RM.clrCell (h : RM n k w C M q J u) (hr : r < n) (hn : n ≤ 192) : RM n k w (upC C c r ((-9223372036854775808) : Int64)) M q J (sI u 2 (192 * c + r) (bI false)) := by
  refine ⟨h.rows, h.cols, h.kept, fun a ha => h.wid ha, fun a b ha hb => ?_, fun a b ha hb hN => ?_, fun a b ha hb => h.msk ha hb, fun i hi => ⟨(sI_ne (by omega)).trans (h.img hi).1, (h.img hi).2⟩⟩
  · unfold upC
    rw [sI1]
    by_cases e : a = c ∧ b = r
    · rw [if_pos (by omega), if_pos e, bne_self_eq_false, Bool.and_false]
    · rw [if_neg (by omega), if_neg e]
      exact h.has ha hb
  · unfold upC at hN ⊢
    by_cases e : a = c ∧ b = r
    · rw [if_pos e] at hN
      exact absurd rfl hN
    · rw [if_neg e] at hN ⊢
      exact h.cell ha hb hN
theorem rc_ref (h : RC n k w C M q σ) : RC n k w C M (q + 1) (sI σ 0 6 (σ.1 0 6 + 1)) := by
  refine ⟨⟨h.1.1, h.rows⟩, h.cols, ?_, fun c hc => h.wid hc, fun a b ha hb => h.cell ha hb, fun a b ha hb => h.bit ha hb⟩
  rw [sIs, h.kept]
theorem RM.ref (h : RM n k w C M q J u) (a : Int32) : RM n k w C M (q + 1) J (sI (sI u 0 7 (u.1 0 7 + 1)) 0 0 a) := by
  refine ⟨h.rows, h.cols, ?_, fun c hc => h.wid hc, fun a b ha hb => h.has ha hb, fun a b ha hb hN => h.cell ha hb hN, fun a b ha hb => h.msk ha hb, fun i hi => ⟨((sI_ne (by omega)).trans (sI_ne (by omega))).trans (h.img hi).1, (h.img hi).2⟩⟩
  rw [sIn (by omega), sIs, h.kept]
/-- an act refused -/
theorem Agr.act {α : Type} {tbl : List String} {I : Ims} {co : Option (Except String α × St)} {mo : Option (α × St)} {b : α} (hW : Wf n k w C M) (hI : ImR I J) (j : Nat) (hc : co = some (.error "java/lang/ArithmeticException", sI σ 0 6 (σ.1 0 6 + 1))) (hm : mo = some (b, sI (sI u 0 7 (u.1 0 7 + 1)) 0 0 (nI (j + 1)))) (ht : tbl[j]? = some "java/lang/ArithmeticException") (h1 : RC n k w C M q σ) (h2 : RM n k w C M q J u) : Agr tbl (Rl I) co mo := Agr.err hW hI j hc hm ht sIs (rc_ref h1) (h2.ref _)
theorem needFit_eq (h : RC n k w C M q σ) (hW : Wf n k w C M) (hc : c < k) (v : Int64) : c_X3_needFit σ (nI c) v = if fitB (w c) v = true then some (.ok (), σ) else some (.error "java/lang/ArithmeticException", sI σ 0 6 (σ.1 0 6 + 1)) := by
  unfold c_X3_needFit
  have hw := hW.hw hc
  rw [ix6 (hW.c6 hc), Option.bind_some, h.wid hc, fits_eq σ hw.1 hw.2, Option.bind_some, needAct_eq]
  cases fitB (w c) v <;> rfl
end TAB
theorem xB_if {β : Type} (b : Bool) (σ τ : St) (e : String) (kk : Unit → St → Option (Except String β × St)) : xB (if b = true then some ((.ok () : Except String Unit), σ) else some (.error e, τ)) kk = if b = true then kk () σ else some (.error e, τ) := by cases b <;> rfl
theorem op_set (I : Ims) (s u : St) (a0 a1 : Int32) (a2 : Int64) (h : Rl I s u) : Agr ["java/lang/IndexOutOfBoundsException", "java/lang/ArithmeticException"] (Rl I) (c_X3_set s a0 a1 a2) (m_X4_set u a0 a1 a2) := by
  obtain ⟨n, k, w, C, M, q, J, hW, hC, hM0, hI⟩ := h
  unfold c_X3_set m_X4_set
  have hM : RM n k w C M q J (sI u 0 0 0) := hM0.sI0 (Or.inl rfl)
  have ht : (sI u 0 0 0).1 0 0 = 0 := sIs
  generalize sI u 0 0 0 = u0 at hM ht ⊢
  simp only [needMask_eq, needWord_eq, needImage_eq, needColumn_eq hC hW, needRow_eq hC hW, needWidth_eq, xB_gX, isMask_eq, isWord_eq, isColumn_eq hM hW, isRow_eq hM hW, areIn_eq hM hW, isIn_eq, rg_if, needArgument_eq, needState_eq, Option.bind_some, if_bI, fails_eq, t64, I_m192, I_m62, I_m9, I_0, I_1, I_2, I_3, I_5, I_9, I_16, I_62, I_63, I_64, I_192, I_1000, L_m192, L_m62, L_m9, L_0, L_1, L_2, L_3, L_5, L_9, L_16, L_62, L_63, L_64, L_192, L_1000]
  by_cases h1 : inB a0 k = true
  case neg =>
    rw [Bool.not_eq_true] at h1
    simp only [h1, Bool.false_and, Bool.and_false, Bool.and_self, Bool.true_and, Bool.and_true, Bool.false_eq_true, eq_self, if_true, if_false, reduceIte, ite_self]
    exact Agr.err hW hI 0 rfl rfl rfl sIs hC (hM.sI0 (Or.inl rfl))
  by_cases h2 : inB a1 n = true
  case neg =>
    rw [Bool.not_eq_true] at h2
    simp only [h1, h2, Bool.false_and, Bool.and_false, Bool.and_self, Bool.true_and, Bool.and_true, Bool.false_eq_true, eq_self, if_true, if_false, reduceIte, ite_self]
    exact Agr.err hW hI 0 rfl rfl rfl sIs hC (hM.sI0 (Or.inl rfl))
  simp only [h1, h2, Bool.false_and, Bool.and_false, Bool.and_self, Bool.true_and, Bool.and_true, Bool.false_eq_true, eq_self, if_true, if_false, reduceIte, ite_self]
  obtain ⟨c, hc, rfl⟩ := inB_ex hW.k31 h1
  obtain ⟨r, hr, rfl⟩ := inB_ex hW.n31 h2
  have hc6 := hW.c6 hc
  have hr2 := hW.r192 hr
  simp only [needFit_eq hC hW hc, xB_if, mfits_eq hM hW hc, Option.bind_some, if_bI, tooGreat_eq]
  cases h3 : fitB (w c) a2 with
  | false =>
    simp only [Bool.false_and, Bool.and_false, Bool.and_self, Bool.true_and, Bool.and_true, Bool.false_eq_true, eq_self, if_true, if_false, reduceIte, ite_self]
    exact Agr.act hW hI 1 rfl rfl rfl hC hM
  | true =>
    have hN := fit_N (hW.hw hc).2 h3
    simp only [Bool.false_and, Bool.and_false, Bool.and_self, Bool.true_and, Bool.and_true, Bool.false_eq_true, eq_self, if_true, if_false, reduceIte, ite_self, ix6 hc6, ix192 hr2, at_eq, ixA hc6 hr2, Option.bind_some, hC.cell hc hr, hM.has' hW hc hr, if_bI, nz_1]
    refine Agr.ok (b := bI (C c r == ((-9223372036854775808) : Int64))) (hW.setCell (Or.inr (fitB_t.mp h3))) hI ?_ ?_ (by exact ht) (rc_set hC hc) (hM.setCell hr hW.hn hN)
    · by_cases e : C c r = ((-9223372036854775808) : Int64)
      · simp [e]; rfl
      · have : (C c r == ((-9223372036854775808) : Int64)) = false := by simpa using e
        simp [e, this]; rfl
    · by_cases e : C c r = ((-9223372036854775808) : Int64)
      · simp [e, m_X4_flag]; rfl
      · have : (C c r == ((-9223372036854775808) : Int64)) = false := by simpa using e
        simp [e, this, m_X4_flag]; rfl
theorem op_clear (I : Ims) (s u : St) (a0 a1 : Int32) (h : Rl I s u) : Agr ["java/lang/IndexOutOfBoundsException"] (Rl I) (c_X3_clear s a0 a1) (m_X4_clear u a0 a1) := by
  obtain ⟨n, k, w, C, M, q, J, hW, hC, hM0, hI⟩ := h
  unfold c_X3_clear m_X4_clear
  have hM : RM n k w C M q J (sI u 0 0 0) := hM0.sI0 (Or.inl rfl)
  have ht : (sI u 0 0 0).1 0 0 = 0 := sIs
  generalize sI u 0 0 0 = u0 at hM ht ⊢
  simp only [needMask_eq, needWord_eq, needImage_eq, needColumn_eq hC hW, needRow_eq hC hW, needWidth_eq, xB_gX, isMask_eq, isWord_eq, isColumn_eq hM hW, isRow_eq hM hW, areIn_eq hM hW, isIn_eq, rg_if, needArgument_eq, needState_eq, Option.bind_some, if_bI, fails_eq, t64, I_m192, I_m62, I_m9, I_0, I_1, I_2, I_3, I_5, I_9, I_16, I_62, I_63, I_64, I_192, I_1000, L_m192, L_m62, L_m9, L_0, L_1, L_2, L_3, L_5, L_9, L_16, L_62, L_63, L_64, L_192, L_1000]
  by_cases h1 : inB a0 k = true
  case neg =>
    rw [Bool.not_eq_true] at h1
    simp only [h1, Bool.false_and, Bool.and_false, Bool.and_self, Bool.true_and, Bool.and_true, Bool.false_eq_true, eq_self, if_true, if_false, reduceIte, ite_self]
    exact Agr.err hW hI 0 rfl rfl rfl sIs hC (hM.sI0 (Or.inl rfl))
  by_cases h2 : inB a1 n = true
  case neg =>
    rw [Bool.not_eq_true] at h2
    simp only [h1, h2, Bool.false_and, Bool.and_false, Bool.and_self, Bool.true_and, Bool.and_true, Bool.false_eq_true, eq_self, if_true, if_false, reduceIte, ite_self]
    exact Agr.err hW hI 0 rfl rfl rfl sIs hC (hM.sI0 (Or.inl rfl))
  simp only [h1, h2, Bool.false_and, Bool.and_false, Bool.and_self, Bool.true_and, Bool.and_true, Bool.false_eq_true, eq_self, if_true, if_false, reduceIte, ite_self]
  obtain ⟨c, hc, rfl⟩ := inB_ex hW.k31 h1
  obtain ⟨r, hr, rfl⟩ := inB_ex hW.n31 h2
  have hc6 := hW.c6 hc
  have hr2 := hW.r192 hr
  simp only [Bool.false_and, Bool.and_false, Bool.and_self, Bool.true_and, Bool.and_true, Bool.false_eq_true, eq_self, if_true, if_false, reduceIte, ite_self, ix6 hc6, ix192 hr2, at_eq, ixA hc6 hr2, Option.bind_some, hC.cell hc hr, hM.has' hW hc hr, flag_eq, nz_0]
  refine Agr.ok (b := bI (C c r != ((-9223372036854775808) : Int64))) (hW.setCell (Or.inl rfl)) hI ?_ rfl ht (rc_set hC hc) (hM.clrCell hr hW.hn)
  by_cases e : C c r = ((-9223372036854775808) : Int64)
  · simp [e]; rfl
  · have : (C c r != ((-9223372036854775808) : Int64)) = true := by simpa using e
    simp [e, this]; rfl
/-! counts -/
section CNT
variable {n k : Nat} {w : Nat → Nat} {C : Nat → Nat → Int64} {M : Nat → Nat → Bool} {q : Int32} {σ τ u u' J : St} {c r m : Nat}
theorem numbersOf_eq (h : RC n k w C M q σ) (hW : Wf n k w C M) (hc : c < k) : c_X1_numbersOf σ (nI c) = some (nI (fb_ct (fun r => C c r != ((-9223372036854775808) : Int64)) n)) := by
  unfold c_X1_numbersOf
  rw [lp_g (fun i => (nI (fb_ct (fun r => C c r != ((-9223372036854775808) : Int64)) i), nI i)) n (nI (fb_ct (fun r => C c r != ((-9223372036854775808) : Int64)) n)) ?_ hW.n5 ?_ ?_]
  · rfl
  · rfl
  · intro i hi
    simp only [h.rows, if_neg (ltL n hW.n31 hi), ix6 (hW.c6 hc), ix192 (hW.r192 hi), Option.bind_some, h.cell hc hi, s01, nI_s, bI_nI, nI_add, fb_ct_succ]
    by_cases e : C c i = ((-9223372036854775808) : Int64)
    · simp [e]
    · have : (C c i != ((-9223372036854775808) : Int64)) = true := by simpa using e
      simp [e, this]
  · simp only [h.rows]
    exact if_pos (geL n hW.n31)
theorem mnumbersOf_eq (h : RM n k w C M q J u) (hW : Wf n k w C M) (hc : c < k) : m_X4_numbersOf u (nI c) = some (nI (fb_ct (fun r => C c r != ((-9223372036854775808) : Int64)) n)) := by
  unfold m_X4_numbersOf
  rw [lp_g (fun i => (nI (fb_ct (fun r => C c r != ((-9223372036854775808) : Int64)) i), nI i)) n (nI (fb_ct (fun r => C c r != ((-9223372036854775808) : Int64)) n)) ?_ hW.n5 ?_ ?_]
  · rfl
  · rfl
  · intro i hi
    simp only [h.rows, if_neg (ltL n hW.n31 hi), at_eq, ixA (hW.c6 hc) (hW.r192 hi), Option.bind_some, h.has' hW hc hi, flag_eq, nI_s]
    rw [bI_nI, nI_add, fb_ct_succ]
  · simp only [h.rows]
    exact if_pos (geL n hW.n31)
theorem allNumbers_eq (h : RC n k w C M q σ) (hW : Wf n k w C M) : c_X1_allNumbers σ = some (nI (fb_sm (fun c => fb_ct (fun r => C c r != ((-9223372036854775808) : Int64)) n) k)) := by
  unfold c_X1_allNumbers
  rw [lp_g (fun i => (nI (fb_sm (fun c => fb_ct (fun r => C c r != ((-9223372036854775808) : Int64)) n) i), nI i)) k (nI (fb_sm (fun c => fb_ct (fun r => C c r != ((-9223372036854775808) : Int64)) n) k)) ?_ (by have := hW.hk; omega) ?_ ?_]
  · rfl
  · rfl
  · intro i hi
    simp only [h.cols, if_neg (ltL k hW.k31 hi), numbersOf_eq h hW hi, Option.bind_some, nI_s, nI_add, fb_sm_succ]
  · simp only [h.cols]
    exact if_pos (geL k hW.k31)
theorem mnumbers_eq (h : RM n k w C M q J u) (hW : Wf n k w C M) : m_X4_numbers u = some (nI (fb_sm (fun c => fb_ct (fun r => C c r != ((-9223372036854775808) : Int64)) n) k)) := by
  unfold m_X4_numbers
  rw [lp_g (fun i => (nI (fb_sm (fun c => fb_ct (fun r => C c r != ((-9223372036854775808) : Int64)) n) i), nI i)) k (nI (fb_sm (fun c => fb_ct (fun r => C c r != ((-9223372036854775808) : Int64)) n) k)) ?_ (by have := hW.hk; omega) ?_ ?_]
  · rfl
  · rfl
  · intro i hi
    simp only [h.cols, if_neg (ltL k hW.k31 hi), mnumbersOf_eq h hW hi, Option.bind_some, nI_s, nI_add, fb_sm_succ]
  · simp only [h.cols]
    exact if_pos (geL k hW.k31)
theorem allWidths_eq (h : RC n k w C M q σ) (hW : Wf n k w C M) : c_X1_allWidths σ = some (nI (fb_sm w k)) := by
  unfold c_X1_allWidths
  rw [lp_g (fun i => (nI (fb_sm w i), nI i)) k (nI (fb_sm w k)) ?_ (by have := hW.hk; omega) ?_ ?_]
  · rfl
  · rfl
  · intro i hi
    simp only [h.cols, if_neg (ltL k hW.k31 hi), ix6 (hW.c6 hi), Option.bind_some, h.wid hi, nI_s, nI_add, fb_sm_succ]
  · simp only [h.cols]
    exact if_pos (geL k hW.k31)
theorem mwidths_eq (h : RM n k w C M q J u) (hW : Wf n k w C M) : m_X4_widths u = some (nI (fb_sm w k)) := by
  unfold m_X4_widths
  rw [lp_g (fun i => (nI (fb_sm w i), nI i)) k (nI (fb_sm w k)) ?_ (by have := hW.hk; omega) ?_ ?_]
  · rfl
  · rfl
  · intro i hi
    simp only [h.cols, if_neg (ltL k hW.k31 hi), ix6 (hW.c6 hi), Option.bind_some, h.wid hi, nI_s, nI_add, fb_sm_succ]
  · simp only [h.cols]
    exact if_pos (geL k hW.k31)
def bare (k : Nat) (C : Nat → Nat → Int64) (r : Nat) : Bool := decide (∀ c, c < k → C c r = ((-9223372036854775808) : Int64))
theorem emptyRows_eq (h : RC n k w C M q σ) (hW : Wf n k w C M) : c_X1_emptyRows σ = some (nI (fb_ct (bare k C) n)) := by
  unfold c_X1_emptyRows
  rw [lp_g (fun i => (nI (fb_ct (bare k C) i), nI i)) n (nI (fb_ct (bare k C) n)) ?_ hW.n5 ?_ ?_]
  · rfl
  · rfl
  · intro i hi
    simp only [h.rows, if_neg (ltL n hW.n31 hi)]
    rw [lp_g (fun j => (bI (decide (∀ c, c < j → C c i = ((-9223372036854775808) : Int64))), nI j)) k (bI (bare k C i)) ?_ (by have := hW.hk; omega) ?_ ?_]
    · simp only [Option.bind_some, if_bI, nI_s]
      cases e : bare k C i <;> simp [fb_ct_succ, e, nI_s]
    · have e0 : ∀ j, j = 0 → bI (decide (∀ c, c < j → C c i = ((-9223372036854775808) : Int64))) = 1 := by
        intro j hj
        rw [decide_eq_true (fun c h => absurd h (by omega))]; rfl
      refine Prod.ext ?_ rfl
      exact (e0 0 rfl).symm
    · intro j hj
      simp only [h.cols, if_neg (ltL k hW.k31 hj), if_bI, ix6 (hW.c6 hj), ix192 (hW.r192 hi), Option.bind_some, h.cell hj hi, s10, nI_s]
      by_cases e1 : ∀ c, c < j → C c i = ((-9223372036854775808) : Int64)
      · by_cases e2 : C j i = ((-9223372036854775808) : Int64)
        · rw [if_pos (decide_eq_true e1), decide_eq_true e2, decide_eq_true (lt_s e1 e2)]; rfl
        · rw [if_pos (decide_eq_true e1), decide_eq_false e2, decide_eq_false (fun q => e2 (q j (by omega)))]; rfl
      · rw [if_neg (by simpa using e1), decide_eq_false (fun q => e1 (fun c hc => q c (by omega)))]; rfl
    · simp only [h.cols]
      exact if_pos (geL k hW.k31)
  · simp only [h.rows]
    exact if_pos (geL n hW.n31)
theorem isBare_eq (h : RM n k w C M q J u) (hW : Wf n k w C M) (hr : r < n) : m_X4_isBare u (nI r) = some (bI (bare k C r)) := by
  unfold m_X4_isBare
  refine wp_val (wp_eB (wp_lp k (fun i z => z = nI i ∧ ∀ c, c < i → C c r = ((-9223372036854775808) : Int64)) (by have := hW.hk; omega) ⟨rfl, fun c h => absurd h (by omega)⟩ (fun i z hi hJ => ?_) (fun z hJ => ?_)))
  · obtain ⟨rfl, h2⟩ := hJ
    simp only [h.cols, if_neg (ltL k hW.k31 hi), at_eq, ixA (hW.c6 hi) (hW.r192 hr), Option.bind_some, h.has' hW hi hr, if_bI, nI_s]
    by_cases e : C i r = ((-9223372036854775808) : Int64)
    · simp only [e, bne_self_eq_false, Bool.false_and, Bool.and_false, Bool.and_self, Bool.true_and, Bool.and_true, Bool.false_eq_true, eq_self, if_true, if_false, reduceIte, ite_self]
      exact wp_some ⟨rfl, lt_s h2 e⟩
    · have e1 : (C i r != ((-9223372036854775808) : Int64)) = true := by simpa using e
      simp only [e1, Bool.false_and, Bool.and_false, Bool.and_self, Bool.true_and, Bool.and_true, Bool.false_eq_true, eq_self, if_true, if_false, reduceIte, ite_self]
      refine wp_some ?_
      show nz 0 = bI (bare k C r)
      rw [show bare k C r = false from decide_eq_false (fun q => e (q i hi))]
      rfl
  · obtain ⟨rfl, h2⟩ := hJ
    simp only [h.cols]
    refine wp_eq (if_pos (geL k hW.k31)) (wp_some ?_)
    show nz 1 = bI (bare k C r)
    rw [show bare k C r = true from decide_eq_true h2]
    rfl
theorem mbare_eq (h : RM n k w C M q J u) (hW : Wf n k w C M) : m_X4_bare u = some (nI (fb_ct (bare k C) n)) := by
  unfold m_X4_bare
  rw [lp_g (fun i => (nI (fb_ct (bare k C) i), nI i)) n (nI (fb_ct (bare k C) n)) ?_ hW.n5 ?_ ?_]
  · rfl
  · rfl
  · intro i hi
    simp only [h.rows, if_neg (ltL n hW.n31 hi), isBare_eq h hW hi, flag_eq, Option.bind_some, nI_s]
    rw [bI_nI, nI_add, fb_ct_succ]
  · simp only [h.rows]
    exact if_pos (geL n hW.n31)
end CNT
/-- has(): no refusal -/
theorem op_has (I : Ims) (s u : St) (a : Int32) (h : Rl I s u) : ∃ x u1, c_X3_has s a = some x ∧ m_X4_has u a = some (x, u1) ∧ Rl I s u1 := by
  obtain ⟨n, k, w, C, M, q, J, hW, hC, hM0, hI⟩ := h
  have hM : RM n k w C M q J (sI u 0 0 0) := hM0.sI0 (Or.inl rfl)
  unfold c_X3_has m_X4_has
  generalize sI u 0 0 0 = u0 at hM ⊢
  simp only [hC.rows, hC.cols, hC.kept, hM.rows, hM.cols, hM.kept, allNumbers_eq hC hW, mnumbers_eq hM hW, allWidths_eq hC hW, mwidths_eq hM hW, emptyRows_eq hC hW, mbare_eq hM hW, Option.bind_some]
  have fin : ∀ x : Int32, ∃ y u1, some x = some y ∧ some (x, u0) = some (y, u1) ∧ Rl I s u1 := fun x => ⟨x, u0, rfl, rfl, n, k, w, C, M, q, J, hW, hC, hM, hI⟩
  repeat' split
  all_goals exact fin _
theorem op_width (I : Ims) (s u : St) (a0 a1 : Int32) (h : Rl I s u) : Agr ["java/lang/IndexOutOfBoundsException", "java/lang/IllegalArgumentException"] (Rl I) (c_X3_width s a0 a1) (m_X4_width u a0 a1) := by
  obtain ⟨n, k, w, C, M, q, J, hW, hC, hM0, hI⟩ := h
  unfold c_X3_width m_X4_width
  have hM : RM n k w C M q J (sI u 0 0 0) := hM0.sI0 (Or.inl rfl)
  have ht : (sI u 0 0 0).1 0 0 = 0 := sIs
  generalize sI u 0 0 0 = u0 at hM ht ⊢
  simp only [needMask_eq, needWord_eq, needImage_eq, needColumn_eq hC hW, needRow_eq hC hW, needWidth_eq, xB_gX, isMask_eq, isWord_eq, isColumn_eq hM hW, isRow_eq hM hW, areIn_eq hM hW, isIn_eq, rg_if, needArgument_eq, needState_eq, Option.bind_some, if_bI, fails_eq, t64, I_m192, I_m62, I_m9, I_0, I_1, I_2, I_3, I_5, I_9, I_16, I_62, I_63, I_64, I_192, I_1000, L_m192, L_m62, L_m9, L_0, L_1, L_2, L_3, L_5, L_9, L_16, L_62, L_63, L_64, L_192, L_1000]
  by_cases h1 : inB a0 k = true
  case neg =>
    rw [Bool.not_eq_true] at h1
    simp only [h1, Bool.false_and, Bool.and_false, Bool.and_self, Bool.true_and, Bool.and_true, Bool.false_eq_true, eq_self, if_true, if_false, reduceIte, ite_self]
    exact Agr.err hW hI 0 rfl rfl rfl sIs hC (hM.sI0 (Or.inl rfl))
  by_cases h2 : rg a1.toInt 0 2 = true
  case neg =>
    rw [Bool.not_eq_true] at h2
    simp only [h1, h2, Bool.false_and, Bool.and_false, Bool.and_self, Bool.true_and, Bool.and_true, Bool.false_eq_true, eq_self, if_true, if_false, reduceIte, ite_self]
    exact Agr.err hW hI 1 rfl rfl rfl sIs hC (hM.sI0 (Or.inl rfl))
  simp only [h1, h2, Bool.false_and, Bool.and_false, Bool.and_self, Bool.true_and, Bool.and_true, Bool.false_eq_true, eq_self, if_true, if_false, reduceIte, ite_self]
  obtain ⟨c, hc, rfl⟩ := inB_ex hW.k31 h1
  simp only [ix6 (hW.c6 hc), Option.bind_some, hC.wid hc, hM.wid hc, numbersOf_eq hC hW hc, mnumbersOf_eq hM hW hc, leastWidth_eq hC hW hc, mleastWidth_eq hM hW hc]
  by_cases e1 : a1 = 0
  · simp only [if_pos e1]
    exact Agr.ok hW hI rfl rfl ht hC hM
  · simp only [if_neg e1]
    by_cases e2 : a1 = 1
    · simp only [if_pos e2]
      exact Agr.ok hW hI rfl rfl ht hC hM
    · simp only [if_neg e2]
      exact Agr.ok hW hI rfl rfl ht hC hM
theorem rg_nat {a : Int32} {lo hi : Nat} (h : rg a.toInt lo hi = true) : ∃ j, lo ≤ j ∧ j ≤ hi ∧ a = nI j := by
  have b := rg_t h
  have h1 := fb_rng a
  refine ⟨a.toInt.toNat, by omega, by omega, ?_⟩
  rw [fa_eq, nI_toInt (by omega)]
  omega
theorem op_widen (I : Ims) (s u : St) (a0 a1 : Int32) (h : Rl I s u) : Agr ["java/lang/IndexOutOfBoundsException", "java/lang/IllegalArgumentException", "java/lang/ArithmeticException"] (Rl I) (c_X3_widen s a0 a1) (m_X4_widen u a0 a1) := by
  obtain ⟨n, k, w, C, M, q, J, hW, hC, hM0, hI⟩ := h
  unfold c_X3_widen m_X4_widen
  have hM : RM n k w C M q J (sI u 0 0 0) := hM0.sI0 (Or.inl rfl)
  have ht : (sI u 0 0 0).1 0 0 = 0 := sIs
  generalize sI u 0 0 0 = u0 at hM ht ⊢
  simp only [needMask_eq, needWord_eq, needImage_eq, needColumn_eq hC hW, needRow_eq hC hW, needWidth_eq, xB_gX, isMask_eq, isWord_eq, isColumn_eq hM hW, isRow_eq hM hW, areIn_eq hM hW, isIn_eq, rg_if, needArgument_eq, needState_eq, Option.bind_some, if_bI, fails_eq, t64, I_m192, I_m62, I_m9, I_0, I_1, I_2, I_3, I_5, I_9, I_16, I_62, I_63, I_64, I_192, I_1000, L_m192, L_m62, L_m9, L_0, L_1, L_2, L_3, L_5, L_9, L_16, L_62, L_63, L_64, L_192, L_1000]
  by_cases h1 : inB a0 k = true
  case neg =>
    rw [Bool.not_eq_true] at h1
    simp only [h1, Bool.false_and, Bool.and_false, Bool.and_self, Bool.true_and, Bool.and_true, Bool.false_eq_true, eq_self, if_true, if_false, reduceIte, ite_self]
    exact Agr.err hW hI 0 rfl rfl rfl sIs hC (hM.sI0 (Or.inl rfl))
  by_cases h2 : rg a1.toInt 2 63 = true
  case neg =>
    rw [Bool.not_eq_true] at h2
    simp only [h1, h2, Bool.false_and, Bool.and_false, Bool.and_self, Bool.true_and, Bool.and_true, Bool.false_eq_true, eq_self, if_true, if_false, reduceIte, ite_self]
    exact Agr.err hW hI 1 rfl rfl rfl sIs hC (hM.sI0 (Or.inl rfl))
  simp only [h1, h2, Bool.false_and, Bool.and_false, Bool.and_self, Bool.true_and, Bool.and_true, Bool.false_eq_true, eq_self, if_true, if_false, reduceIte, ite_self]
  obtain ⟨c, hc, rfl⟩ := inB_ex hW.k31 h1
  obtain ⟨x, hx1, hx2, rfl⟩ := rg_nat (lo := 2) (hi := 63) h2
  have hl := lwd_in (C c) n
  simp only [leastWidth_eq hC hW hc, mleastWidth_eq hM hW hc, Option.bind_some, s01, needAct_eq, xB_if, tooGreat_eq, nI_ltI (show x < 2 ^ 31 by omega) (show lwd (C c) n < 2 ^ 31 by omega), nI_leI (show lwd (C c) n < 2 ^ 31 by omega) (show x < 2 ^ 31 by omega)]
  by_cases e : lwd (C c) n ≤ x
  · have e2 : ¬ x < lwd (C c) n := by omega
    simp only [e, e2, decide_false, Bool.not_false, Bool.false_and, Bool.and_false, Bool.and_self, Bool.true_and, Bool.and_true, Bool.false_eq_true, eq_self, if_true, if_false, reduceIte, ite_self, ix6 (hW.c6 hc), Option.bind_some, hC.wid hc, hM.wid hc]
    have hW' : Wf n k (upW w c x) C M := by
      refine ⟨hW.1, hW.2.1, fun a ha => ?_, fun a b ha hb => ?_, hW.2.2.2.2⟩
      · unfold upW
        by_cases ea : a = c
        · rw [if_pos ea]; omega
        · rw [if_neg ea]; exact hW.hw ha
      · unfold upW
        by_cases ea : a = c
        · rw [if_pos ea]
          subst ea
          by_cases eN : C a b = ((-9223372036854775808) : Int64)
          · exact Or.inl eN
          · exact Or.inr (fitB_t.mp (fitB_mono (Nat.le_trans (lwd_ge (C a) n b hb eN) e) (wOf_fit (fit63 hW hc hb eN))))
        · rw [if_neg ea]; exact hW.hf ha hb
    refine Agr.ok (q := q) hW' hI rfl rfl ht ?_ ?_
    · refine ⟨hC.1, hC.cols, hC.kept, fun a ha => ?_, fun a b ha hb => hC.cell ha hb, fun a b ha hb => hC.bit ha hb⟩
      unfold upW
      rw [sI1]
      by_cases ea : a = c
      · rw [if_pos ⟨rfl, ea⟩, if_pos ea]
      · rw [if_neg (fun z => ea z.2), if_neg ea]; exact hC.wid ha
    · refine ⟨hM.rows, hM.cols, hM.kept, fun a ha => ?_, fun a b ha hb => hM.has ha hb, fun a b ha hb hN => hM.cell ha hb hN, fun a b ha hb => hM.msk ha hb, fun i hi => ⟨(sI_ne (by omega)).trans (hM.img hi).1, (hM.img hi).2⟩⟩
      unfold upW
      rw [sI1]
      by_cases ea : a = c
      · rw [if_pos ⟨rfl, ea⟩, if_pos ea]
      · rw [if_neg (fun z => ea z.2), if_neg ea]; exact hM.wid ha
  · have e2 : x < lwd (C c) n := by omega
    simp only [e, e2, decide_true, Bool.not_true, Bool.false_and, Bool.and_false, Bool.and_self, Bool.true_and, Bool.and_true, Bool.false_eq_true, eq_self, if_true, if_false, reduceIte, ite_self]
    exact Agr.act hW hI 2 rfl rfl rfl hC hM
