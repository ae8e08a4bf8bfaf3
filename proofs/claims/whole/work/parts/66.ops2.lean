/-! ===== more operations on masks: bits, field, move, mask ===== -/
theorem RC.newMask2 {n k : Nat} {w : Nat → Nat} {C : Nat → Nat → Int64} {M : Nat → Nat → Bool} {q : Int32} {σ τ : St} {m : Nat} {p : Nat → Bool} (h : RC n k w C M q σ) (hm : m < 8) (ho : Oc (11 + m) σ τ) (hp : ∀ r, r < 192 → lb (τ.2 (11 + m) (r / 64)) (r % 64) = p r) : RC n k w C (upM M m p) q τ := by
  have hk := h.1.1
  refine ⟨⟨hk, by rw [(ho 1 (by omega)).1]; exact h.rows⟩, by rw [(ho 1 (by omega)).1]; exact h.cols, by rw [(ho 0 (by omega)).1]; exact h.kept, fun c hc => by rw [(ho 2 (by omega)).1]; exact h.wid hc, fun c r hc hr => by rw [(ho (4 + c) (by omega)).2]; exact h.cell hc hr, fun a r ha hr => ?_⟩
  unfold upM
  by_cases e : a = m
  · subst e
    rw [if_pos rfl]
    exact hp r hr
  · rw [if_neg e, (ho (11 + a) (by omega)).2]
    exact h.bit ha hr
theorem mod64' {r : Nat} (h : r < 192) : nI r - nI (r / 64) * 64 = nI (r % 64) := by
  rw [← row64 h]
  exact mod64 h
theorem op_bits (I : Ims) (s u : St) (a0 a1 : Int32) (a2 : Int64) (h : Rl I s u) : Agr ["java/lang/IndexOutOfBoundsException"] (Rl I) (c_X3_bits s a0 a1 a2) (m_X4_bits u a0 a1 a2) := by
  obtain ⟨n, k, w, C, M, q, J, hW, hC, hM0, hI⟩ := h
  unfold c_X3_bits m_X4_bits
  have hM : RM n k w C M q J (sI u 0 0 0) := hM0.sI0 (Or.inl rfl)
  have ht : (sI u 0 0 0).1 0 0 = 0 := sIs
  generalize sI u 0 0 0 = u0 at hM ht ⊢
  simp only [needMask_eq, needWord_eq, needImage_eq, needColumn_eq hC hW, needRow_eq hC hW, needWidth_eq, xB_gX, isMask_eq, isWord_eq, isColumn_eq hM hW, isRow_eq hM hW, areIn_eq hM hW, isIn_eq, rg_if, needArgument_eq, needState_eq, Option.bind_some, if_bI, fails_eq, t64, I_m192, I_m62, I_m9, I_0, I_1, I_2, I_3, I_5, I_9, I_16, I_62, I_63, I_64, I_192, I_1000, L_m192, L_m62, L_m9, L_0, L_1, L_2, L_3, L_5, L_9, L_16, L_62, L_63, L_64, L_192, L_1000]
  by_cases h1 : inB a0 8 = true
  case neg =>
    rw [Bool.not_eq_true] at h1
    simp only [h1, Bool.false_and, Bool.and_false, Bool.and_self, Bool.true_and, Bool.and_true, Bool.false_eq_true, eq_self, if_true, if_false, reduceIte, ite_self]
    exact Agr.err hW hI 0 rfl rfl rfl sIs hC (hM.sI0 (Or.inl rfl))
  by_cases h2 : inB a1 3 = true
  case neg =>
    rw [Bool.not_eq_true] at h2
    simp only [h1, h2, Bool.false_and, Bool.and_false, Bool.and_self, Bool.true_and, Bool.and_true, Bool.false_eq_true, eq_self, if_true, if_false, reduceIte, ite_self]
    exact Agr.err hW hI 0 rfl rfl rfl sIs hC (hM.sI0 (Or.inl rfl))
  simp only [h1, h2, Bool.false_and, Bool.and_false, Bool.and_self, Bool.true_and, Bool.and_true, Bool.false_eq_true, eq_self, if_true, if_false, reduceIte, ite_self]
  obtain ⟨m, hm, rfl⟩ := inB_ex (by decide) h1
  obtain ⟨d, hd, rfl⟩ := inB_ex (by decide) h2
  rw [ix8 hm, Option.bind_some]
  refine Agr.bindC (rowsOfWord_wp hC.rows hW.hn hd) (fun x hx => ?_)
  rw [ix3 hd, Option.bind_some, maskCount_eq _ hm, Option.bind_some]
  have hp : ∀ r, r < 192 → lb ((sL s (11 + m) d (a2 &&& x)).2 (11 + m) (r / 64)) (r % 64) = (decide (r < n) && if r / 64 = d then lb a2 (r % 64) else M m r) := by
    intro r hr
    rw [sL2]
    by_cases e : r / 64 = d
    · rw [if_pos ⟨rfl, e⟩, if_pos e, lb_and, hx _ (by omega), show 64 * d + r % 64 = r by omega, Bool.and_comm]
    · rw [if_neg (fun q => e q.2), if_neg e, hC.bit hm hr]
      cases e2 : M m r
      · simp
      · simp [hW.hm hm e2]
  rw [mmade (fun r => if r / 64 = d then lb a2 (r % 64) else M m r) hM (fun i u' hi hM' => ?_) (fun u' => if_pos ge192), Option.bind_some]
  · rw [becomes_eq (hM.oc (by decide) fI_oc) hW hm (fun r => if r / 64 = d then lb a2 (r % 64) else M m r) (fun r hr => fI_in0 (hW.r192 hr)), Option.bind_some]
    rw [fb_ct_cong hp]
    exact Agr.ok (hW.newMask (m := m) (p := fun r => decide (r < n) && if r / 64 = d then lb a2 (r % 64) else M m r) (fun r hr => by rw [Bool.and_eq_true, decide_eq_true_eq] at hr; exact hr.1)) hI rfl rfl (by rw [fI_ne (by decide), fI_ne (by decide)]; exact ht) (hC.newMask2 hm Oc.rf.sL hp) ((hM.oc (by decide) fI_oc).newMask hm)
  · simp only [if_neg (lt192 hi), Option.bind_some, at_eq, ixB hm hi, ix192 hi, hM'.msk hm hi, row64 hi, mod64' hi, lb_ask1 (show i % 64 < 64 by omega), nI_s]
    by_cases e : i / 64 = d
    · rw [if_pos (show nI (i / 64) = nI d by rw [e]), if_pos e]
      cases lb a2 (i % 64) <;> rfl
    · rw [if_neg (show ¬ nI (i / 64) = nI d from fun q => e ((nI_eq (by omega) (by omega)).mp q)), if_neg e]
      cases M m i <;> rfl
theorem fld1 : ∀ j, j < 17 → (((1 : Int32) <<< (nI j &&& 31)) - (1 : Int32)).toInt64 = ((1 : Int64) <<< ((nI j).toInt64 &&& 63)) - (1 : Int64) := by decide +kernel
theorem op_field (I : Ims) (s u : St) (a0 a1 a2 a3 a4 a5 : Int32) (h : Rl I s u) : Agr ["java/lang/IndexOutOfBoundsException", "java/lang/IllegalArgumentException"] (Rl I) (c_X3_field s a0 a1 a2 a3 a4 a5) (m_X4_field u a0 a1 a2 a3 a4 a5) := by
  obtain ⟨n, k, w, C, M, q, J, hW, hC, hM0, hI⟩ := h
  unfold c_X3_field m_X4_field
  have hM : RM n k w C M q J (sI u 0 0 0) := hM0.sI0 (Or.inl rfl)
  have ht : (sI u 0 0 0).1 0 0 = 0 := sIs
  generalize sI u 0 0 0 = u0 at hM ht ⊢
  simp only [needMask_eq, needWord_eq, needImage_eq, needColumn_eq hC hW, needRow_eq hC hW, needWidth_eq, xB_gX, isMask_eq, isWord_eq, isColumn_eq hM hW, isRow_eq hM hW, areIn_eq hM hW, isIn_eq, rg_if, needArgument_eq, needState_eq, Option.bind_some, if_bI, fails_eq, t64, I_m192, I_m62, I_m9, I_0, I_1, I_2, I_3, I_5, I_9, I_16, I_62, I_63, I_64, I_192, I_1000, L_m192, L_m62, L_m9, L_0, L_1, L_2, L_3, L_5, L_9, L_16, L_62, L_63, L_64, L_192, L_1000]
  by_cases h1 : inB a0 8 = true
  case neg =>
    rw [Bool.not_eq_true] at h1
    simp only [h1, Bool.false_and, Bool.and_false, Bool.and_self, Bool.true_and, Bool.and_true, Bool.false_eq_true, eq_self, if_true, if_false, reduceIte, ite_self]
    exact Agr.err hW hI 0 rfl rfl rfl sIs hC (hM.sI0 (Or.inl rfl))
  by_cases h2 : inB a1 k = true
  case neg =>
    rw [Bool.not_eq_true] at h2
    simp only [h1, h2, Bool.false_and, Bool.and_false, Bool.and_self, Bool.true_and, Bool.and_true, Bool.false_eq_true, eq_self, if_true, if_false, reduceIte, ite_self]
    exact Agr.err hW hI 0 rfl rfl rfl sIs hC (hM.sI0 (Or.inl rfl))
  by_cases h3 : inB a5 8 = true
  case neg =>
    rw [Bool.not_eq_true] at h3
    simp only [h1, h2, h3, Bool.false_and, Bool.and_false, Bool.and_self, Bool.true_and, Bool.and_true, Bool.false_eq_true, eq_self, if_true, if_false, reduceIte, ite_self]
    exact Agr.err hW hI 0 rfl rfl rfl sIs hC (hM.sI0 (Or.inl rfl))
  simp only [h1, h2, h3, Bool.false_and, Bool.and_false, Bool.and_self, Bool.true_and, Bool.and_true, Bool.false_eq_true, eq_self, if_true, if_false, reduceIte, ite_self]
  obtain ⟨m, hm, rfl⟩ := inB_ex (by decide) h1
  obtain ⟨c, hc, rfl⟩ := inB_ex hW.k31 h2
  obtain ⟨m2, hm2, rfl⟩ := inB_ex (by decide) h3
  have hc6 := hW.c6 hc
  have hw := hW.hw hc
  have ew : ((nI (w c) - 1).toInt64).toInt = (w c : Int) - 1 := by
    rw [t64, show (1 : Int32) = nI 1 from rfl, pk_sub_toInt (by omega) (by decide)]
    rfl
  rw [t64] at ew
  simp only [needBit_eq hC hW hc, xB_gX, ix6 hc6, Option.bind_some, hM.wid hc, hC.wid hc, ew, rg_inB]
  by_cases h4 : inB a2 (w c) = true
  case neg =>
    rw [Bool.not_eq_true] at h4
    simp only [h1, h2, h3, h4, Bool.false_and, Bool.and_false, Bool.and_self, Bool.true_and, Bool.and_true, Bool.false_eq_true, eq_self, if_true, if_false, reduceIte, ite_self]
    exact Agr.err hW hI 0 rfl rfl rfl sIs hC (hM.sI0 (Or.inl rfl))
  simp only [h1, h2, h3, h4, Bool.false_and, Bool.and_false, Bool.and_self, Bool.true_and, Bool.and_true, Bool.false_eq_true, eq_self, if_true, if_false, reduceIte, ite_self]
  obtain ⟨f, hf, rfl⟩ := inB_ex (by omega) h4
  -- many
  have hB : ∀ x : Int32, (if x < (1 : Int32) then some (0 : Int32) else (if (16 : Int32) < x then some (0 : Int32) else (if (nI (w c) - nI f) < x then some (0 : Int32) else some (1 : Int32)))) = some (bI (rg x.toInt 1 16 && !decide (nI (w c) < nI f + x))) := by
    intro x
    by_cases hx : rg x.toInt 1 16 = true
    · have b := rg_t hx
      rw [if_neg (by rw [fa_lt, I_1]; omega), if_neg (by rw [fa_lt, I_16]; omega), hx, Bool.true_and]
      have e1 : (nI (w c) - nI f < x) = (nI (w c) < nI f + x) := by
        have e2 : (nI f + x).toInt = (f : Int) + x.toInt := by
          rw [fb_addI (by rw [nI_toInt (by omega)]; omega) (by rw [nI_toInt (by omega)]; omega), nI_toInt (by omega)]
        rw [fa_lt, fa_lt, pk_sub_toInt (by omega) (by omega), e2, nI_toInt (by omega)]
        exact propext ⟨fun _ => by omega, fun _ => by omega⟩
      simp only [e1]
      exact s01 _
    · have b := rg_f hx
      rw [Bool.not_eq_true] at hx
      rw [hx, Bool.false_and]
      by_cases q1 : x < (1 : Int32)
      · rw [if_pos q1]; rfl
      · rw [if_neg q1]
        rw [fa_lt, I_1] at q1
        rw [if_pos (by rw [fa_lt, I_16]; omega)]; rfl
  rw [hB a3, Option.bind_some, needArgument_eq, xB_gX]
  by_cases h5 : rg a3.toInt 1 16 = true
  case neg =>
    rw [Bool.not_eq_true] at h5
    simp only [h5, Bool.false_and, Bool.and_false, Bool.and_self, Bool.true_and, Bool.and_true, Bool.false_eq_true, eq_self, if_true, if_false, reduceIte, ite_self]
    exact Agr.err hW hI 1 rfl rfl rfl sIs hC (hM.sI0 (Or.inl rfl))
  simp only [h5, Bool.false_and, Bool.and_false, Bool.and_self, Bool.true_and, Bool.and_true, Bool.false_eq_true, eq_self, if_true, if_false, reduceIte, ite_self]
  by_cases h6 : nI (w c) < nI f + a3
  case pos =>
    simp only [h6, decide_true, Bool.not_true, Bool.false_and, Bool.and_false, Bool.and_self, Bool.true_and, Bool.and_true, Bool.false_eq_true, eq_self, if_true, if_false, reduceIte, ite_self]
    exact Agr.err hW hI 1 rfl rfl rfl sIs hC (hM.sI0 (Or.inl rfl))
  simp only [h6, decide_false, Bool.not_false, Bool.false_and, Bool.and_false, Bool.and_self, Bool.true_and, Bool.and_true, Bool.false_eq_true, eq_self, if_true, if_false, reduceIte, ite_self]
  obtain ⟨j, hj, rfl⟩ := inB_ex (a := a3) (n := 17) (by decide) (by
    have b := rg_t h5
    unfold inB
    rw [Bool.and_eq_true, decide_eq_true_eq, decide_eq_true_eq]
    omega)
  by_cases h7 : rg a4.toInt 0 (((1 : Int32) <<< (nI j &&& 31)) - (1 : Int32)).toInt = true
  case neg =>
    rw [Bool.not_eq_true] at h7
    simp only [h1, h2, h3, h4, h7, Bool.false_and, Bool.and_false, Bool.and_self, Bool.true_and, Bool.and_true, Bool.false_eq_true, eq_self, if_true, if_false, reduceIte, ite_self]
    exact Agr.err hW hI 1 rfl rfl rfl sIs hC (hM.sI0 (Or.inl rfl))
  simp only [h1, h2, h3, h4, h7, Bool.false_and, Bool.and_false, Bool.and_self, Bool.true_and, Bool.and_true, Bool.false_eq_true, eq_self, if_true, if_false, reduceIte, ite_self]
  rw [begin_eq, Option.bind_some]
  refine Agr.bindC (cmade (fun r => (C c r != ((-9223372036854775808) : Int64) && M m2 r) && decide (((C c r >>> ((nI f).toInt64 &&& 63)) &&& (((1 : Int64) <<< ((nI j).toInt64 &&& 63)) - (1 : Int64))) = a4.toInt64)) hW (hC.oc (by decide) fL_oc) Mk_begin (fun i σ' hi hC' _ => ?_) (fun σ' hC' => ?_)) (fun σ' hσ => ?_)
  · simp only [hC'.rows, if_neg (ltL n hW.n31 hi), isNumbered_eq hC' hW hc hi hm2, Option.bind_some, if_bI, ix6 hc6, ix192 (hW.r192 hi), hC'.cell hc hi, include_eq hC' hW hi, nI_s, fld1 j hj]
    by_cases e : ((C c i >>> ((nI f).toInt64 &&& 63)) &&& (((1 : Int64) <<< ((nI j).toInt64 &&& 63)) - (1 : Int64))) = a4.toInt64
    · rw [if_pos e, decide_eq_true e]
      cases (C c i != ((-9223372036854775808) : Int64) && M m2 i) <;> rfl
    · rw [if_neg e, decide_eq_false e]
      cases (C c i != ((-9223372036854775808) : Int64) && M m2 i) <;> rfl
  · simp only [hC'.rows]
    exact if_pos (geL n hW.n31)
  rw [mmade (fun r => (C c r != ((-9223372036854775808) : Int64) && M m2 r) && decide (((C c r >>> ((nI f).toInt64 &&& 63)) &&& (((1 : Int64) <<< ((nI j).toInt64 &&& 63)) - (1 : Int64))) = a4.toInt64)) hM (fun i u' hi hM' => ?_) (fun u' => if_pos ge192), Option.bind_some]
  · exact mask_end hW hI hσ.1 hσ.2 (hM.oc (by decide) fI_oc) (fun r hr => fI_in0 (hW.r192 hr)) (by rw [fI_ne (by decide)]; exact ht) hm
  · simp only [if_neg (lt192 hi), hasUnder_eq hM' hW hc hi hm2, Option.bind_some, if_bI, at_eq, ixA hc6 hi, ix192 hi, nI_s]
    by_cases e : (C c i != ((-9223372036854775808) : Int64) && M m2 i) = true
    · have e1 := Bool.and_eq_true_iff.mp e
      rw [hM'.cell hc (hW.hm hm2 e1.2) (nbN e1.1)]
      simp only [e, Bool.false_and, Bool.and_false, Bool.and_self, Bool.true_and, Bool.and_true, Bool.false_eq_true, eq_self, if_true, if_false, reduceIte, ite_self, s10, Option.bind_some, nz_bI]
    · rw [Bool.not_eq_true] at e
      simp only [e, Bool.false_and, Bool.and_false, Bool.and_self, Bool.true_and, Bool.and_true, Bool.false_eq_true, eq_self, if_true, if_false, reduceIte, ite_self]
      rfl
theorem op_move (I : Ims) (s u : St) (a0 a1 a2 : Int32) (h : Rl I s u) : Agr ["java/lang/IndexOutOfBoundsException", "java/lang/IllegalArgumentException"] (Rl I) (c_X3_move s a0 a1 a2) (m_X4_move u a0 a1 a2) := by
  obtain ⟨n, k, w, C, M, q, J, hW, hC, hM0, hI⟩ := h
  unfold c_X3_move m_X4_move
  have hM : RM n k w C M q J (sI u 0 0 0) := hM0.sI0 (Or.inl rfl)
  have ht : (sI u 0 0 0).1 0 0 = 0 := sIs
  generalize sI u 0 0 0 = u0 at hM ht ⊢
  simp only [needMask_eq, needWord_eq, needImage_eq, needColumn_eq hC hW, needRow_eq hC hW, needWidth_eq, xB_gX, isMask_eq, isWord_eq, isColumn_eq hM hW, isRow_eq hM hW, areIn_eq hM hW, isIn_eq, rg_if, needArgument_eq, needState_eq, Option.bind_some, if_bI, fails_eq, t64, I_m192, I_m62, I_m9, I_0, I_1, I_2, I_3, I_5, I_9, I_16, I_62, I_63, I_64, I_192, I_1000, L_m192, L_m62, L_m9, L_0, L_1, L_2, L_3, L_5, L_9, L_16, L_62, L_63, L_64, L_192, L_1000]
  by_cases h1 : inB a0 8 = true
  case neg =>
    rw [Bool.not_eq_true] at h1
    simp only [h1, Bool.false_and, Bool.and_false, Bool.and_self, Bool.true_and, Bool.and_true, Bool.false_eq_true, eq_self, if_true, if_false, reduceIte, ite_self]
    exact Agr.err hW hI 0 rfl rfl rfl sIs hC (hM.sI0 (Or.inl rfl))
  by_cases h2 : inB a1 8 = true
  case neg =>
    rw [Bool.not_eq_true] at h2
    simp only [h1, h2, Bool.false_and, Bool.and_false, Bool.and_self, Bool.true_and, Bool.and_true, Bool.false_eq_true, eq_self, if_true, if_false, reduceIte, ite_self]
    exact Agr.err hW hI 0 rfl rfl rfl sIs hC (hM.sI0 (Or.inl rfl))
  by_cases h3 : rg a2.toInt (-192) 192 = true
  case neg =>
    rw [Bool.not_eq_true] at h3
    simp only [h1, h2, h3, Bool.false_and, Bool.and_false, Bool.and_self, Bool.true_and, Bool.and_true, Bool.false_eq_true, eq_self, if_true, if_false, reduceIte, ite_self]
    exact Agr.err hW hI 1 rfl rfl rfl sIs hC (hM.sI0 (Or.inl rfl))
  simp only [h1, h2, h3, Bool.false_and, Bool.and_false, Bool.and_self, Bool.true_and, Bool.and_true, Bool.false_eq_true, eq_self, if_true, if_false, reduceIte, ite_self]
  obtain ⟨m, hm, rfl⟩ := inB_ex (by decide) h1
  obtain ⟨m2, hm2, rfl⟩ := inB_ex (by decide) h2
  have hb := rg_t h3
  have hn := hW.hn
  rw [begin_eq, Option.bind_some]
  -- where a row goes
  have plus : ∀ i, i < 192 → (nI i + a2).toInt = (i : Int) + a2.toInt := fun i hi => by
    rw [fb_addI (by rw [nI_toInt (by omega)]; omega) (by rw [nI_toInt (by omega)]; omega), nI_toInt (by omega)]
  have less : ∀ i, i < 192 → (nI i - a2).toInt = (i : Int) - a2.toInt := fun i hi => by
    rw [fb_subI (by rw [nI_toInt (by omega)]; omega) (by rw [nI_toInt (by omega)]; omega), nI_toInt (by omega)]
  refine Agr.bindC (P := fun σ' => RC n k w C M q σ' ∧ Mk σ' (fun x => decide (x < n) && (inB (nI x - a2) n && M m2 (((x : Int) - a2.toInt).toNat)))) (wp_lp n (fun i s => s.1 = nI i ∧ RC n k w C M q s.2 ∧ Mk s.2 (fun x => decide (x < n) && (inB (nI x - a2) n && (decide ((x : Int) - a2.toInt < i) && M m2 (((x : Int) - a2.toInt).toNat))))) hW.n5 ⟨rfl, show RC n k w C M q (fL s 26 0 (fun _ => 0) 3) from hC.oc (i := 26) (by decide) fL_oc, fun r hr => ?_⟩ (fun i s hi hJ => ?_) (fun s hJ => ?_)) (fun σ' hσ => ?_)
  · rw [Mk_begin r hr]
    have : inB (nI r - a2) n = true → ¬ (r : Int) - a2.toInt < ((0 : Nat) : Int) := fun q => by
      unfold inB at q
      rw [Bool.and_eq_true, decide_eq_true_eq, decide_eq_true_eq, less r hr] at q
      omega
    show false = (decide (r < n) && (inB (nI r - a2) n && (decide ((r : Int) - a2.toInt < ((0 : Nat) : Int)) && M m2 (((r : Int) - a2.toInt).toNat))))
    cases hq : inB (nI r - a2) n
    · simp
    · rw [decide_eq_false (this hq)]; simp
  · obtain ⟨a, σ'⟩ := s
    obtain ⟨ha, hC', h2⟩ := hJ
    simp only at ha hC' h2
    subst ha
    have hi2 := hW.r192 hi
    simp only [hC'.rows, if_neg (ltL n hW.n31 hi), isUnder_eq hC' hm2 hi2, Option.bind_some, if_bI, nI_s]
    have key : ∀ x, x < 192 → x < n → inB (nI x - a2) n = true → ((x : Int) - a2.toInt < ((i + 1 : Nat) : Int) ↔ (x : Int) - a2.toInt < (i : Int) ∨ (x : Int) = i + a2.toInt) := fun x hx _ _ => by omega
    cases hMi : M m2 i with
    | false =>
      simp only [Bool.false_and, Bool.and_false, Bool.and_self, Bool.true_and, Bool.and_true, Bool.false_eq_true, eq_self, if_true, if_false, reduceIte, ite_self, Option.bind_some]
      refine wp_some ⟨rfl, hC', fun x hx => ?_⟩
      rw [h2 x hx]
      show (decide (x < n) && (inB (nI x - a2) n && (decide ((x : Int) - a2.toInt < (i : Int)) && M m2 (((x : Int) - a2.toInt).toNat)))) = (decide (x < n) && (inB (nI x - a2) n && (decide ((x : Int) - a2.toInt < ((i + 1 : Nat) : Int)) && M m2 (((x : Int) - a2.toInt).toNat))))
      by_cases e : (x : Int) - a2.toInt = i
      · rw [show ((x : Int) - a2.toInt).toNat = i by omega, hMi]; simp
      · rw [decide_eq_decide.mpr (show ((x : Int) - a2.toInt < (i : Int) ↔ (x : Int) - a2.toInt < ((i + 1 : Nat) : Int)) by omega)]
    | true =>
      simp only [Bool.false_and, Bool.and_false, Bool.and_self, Bool.true_and, Bool.and_true, Bool.false_eq_true, eq_self, if_true, if_false, reduceIte, ite_self]
      cases hin : inB (nI i + a2) n with
      | false =>
        rw [include_out hC' hW hin, Option.bind_some, Option.bind_some]
        refine wp_some ⟨rfl, hC', fun x hx => ?_⟩
        rw [h2 x hx]
        show (decide (x < n) && (inB (nI x - a2) n && (decide ((x : Int) - a2.toInt < (i : Int)) && M m2 (((x : Int) - a2.toInt).toNat)))) = (decide (x < n) && (inB (nI x - a2) n && (decide ((x : Int) - a2.toInt < ((i + 1 : Nat) : Int)) && M m2 (((x : Int) - a2.toInt).toNat))))
        by_cases e : (x : Int) - a2.toInt = i
        · have : ¬ x < n := fun q => by
            unfold inB at hin
            rw [plus i hi2, Bool.and_eq_false_iff, decide_eq_false_iff_not, decide_eq_false_iff_not] at hin
            omega
          simp [this]
        · rw [decide_eq_decide.mpr (show ((x : Int) - a2.toInt < (i : Int) ↔ (x : Int) - a2.toInt < ((i + 1 : Nat) : Int)) by omega)]
      | true =>
        obtain ⟨y, hy, ey⟩ := inB_ex hW.n31 hin
        have ey2 : (y : Int) = i + a2.toInt := by
          have := plus i hi2
          rw [ey, nI_toInt (by omega)] at this
          exact this
        rw [ey, include_eq hC' hW hy, Option.bind_some, Option.bind_some]
        refine wp_some ⟨rfl, hC'.sL (by decide), fun x hx => ?_⟩
        rw [h2.put (hW.r192 hy) x hx]
        show ((decide (x < n) && (inB (nI x - a2) n && (decide ((x : Int) - a2.toInt < (i : Int)) && M m2 (((x : Int) - a2.toInt).toNat)))) || decide (x = y)) = (decide (x < n) && (inB (nI x - a2) n && (decide ((x : Int) - a2.toInt < ((i + 1 : Nat) : Int)) && M m2 (((x : Int) - a2.toInt).toNat))))
        by_cases e : x = y
        · have e3 : inB (nI x - a2) n = true := by
            unfold inB
            rw [less x hx, Bool.and_eq_true, decide_eq_true_eq, decide_eq_true_eq]
            omega
          rw [show ((x : Int) - a2.toInt).toNat = i by omega, hMi, e3, decide_eq_true (show x < n by omega), decide_eq_true (show (x : Int) - a2.toInt < ((i + 1 : Nat) : Int) by omega), decide_eq_true e]
          simp
        · rw [decide_eq_decide.mpr (show ((x : Int) - a2.toInt < (i : Int) ↔ (x : Int) - a2.toInt < ((i + 1 : Nat) : Int)) by omega), decide_eq_false e, Bool.or_false]
  · obtain ⟨a, σ'⟩ := s
    obtain ⟨ha, hC', h2⟩ := hJ
    simp only at ha hC' h2
    subst ha
    simp only [hC'.rows]
    refine wp_eq (if_pos (geL n hW.n31)) ⟨hC', fun x hx => ?_⟩
    rw [h2 x hx]
    show (decide (x < n) && (inB (nI x - a2) n && (decide ((x : Int) - a2.toInt < (n : Int)) && M m2 (((x : Int) - a2.toInt).toNat)))) = (decide (x < n) && (inB (nI x - a2) n && M m2 (((x : Int) - a2.toInt).toNat)))
    cases hq : inB (nI x - a2) n
    · simp
    · have : (x : Int) - a2.toInt < (n : Int) := by
        unfold inB at hq
        rw [less x hx, Bool.and_eq_true, decide_eq_true_eq, decide_eq_true_eq] at hq
        exact hq.2
      rw [decide_eq_true this, Bool.true_and]
  rw [mmade (fun x => inB (nI x - a2) n && M m2 (((x : Int) - a2.toInt).toNat)) hM (fun i u' hi hM' => ?_) (fun u' => if_pos ge192), Option.bind_some]
  · exact mask_end hW hI hσ.1 hσ.2 (hM.oc (by decide) fI_oc) (fun r hr => fI_in0 (hW.r192 hr)) (by rw [fI_ne (by decide)]; exact ht) hm
  · simp only [if_neg (lt192 hi), isRow_eq hM' hW, Option.bind_some, if_bI, nI_s]
    cases hq : inB (nI i - a2) n with
    | false => simp only [Bool.false_and, Bool.and_false, Bool.and_self, Bool.true_and, Bool.and_true, Bool.false_eq_true, eq_self, if_true, if_false, reduceIte, ite_self, ix192 hi, Option.bind_some, nz_0]
    | true =>
      obtain ⟨y, hy, ey⟩ := inB_ex hW.n31 hq
      have ey2 : (y : Int) = i - a2.toInt := by
        have := less i hi
        rw [ey, nI_toInt (by omega)] at this
        exact this
      have hy2 := hW.r192 hy
      simp only [Bool.false_and, Bool.and_false, Bool.and_self, Bool.true_and, Bool.and_true, Bool.false_eq_true, eq_self, if_true, if_false, reduceIte, ite_self, ey, at_eq, ixB hm2 hy2, ix192 hi, Option.bind_some, hM'.msk hm2 hy2, if_bI]
      rw [show ((i : Int) - a2.toInt).toNat = y by omega]
      cases M m2 y <;> rfl
