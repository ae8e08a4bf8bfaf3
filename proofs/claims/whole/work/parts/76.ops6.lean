/-! plus -/
theorem op_plus (I : Ims) (s u : St) (a0 a1 a2 a3 : Int32) (h : Rl I s u) : Agr ["java/lang/IndexOutOfBoundsException", "java/lang/ArithmeticException"] (Rl I) (c_X3_plus s a0 a1 a2 a3) (m_X4_plus u a0 a1 a2 a3) := by
  obtain ⟨n, k, w, C, M, q, J, hW, hC, hM0, hI⟩ := h
  unfold c_X3_plus m_X4_plus
  have hM : RM n k w C M q J (sI u 0 0 0) := hM0.sI0 (Or.inl rfl)
  have ht : (sI u 0 0 0).1 0 0 = 0 := sIs
  generalize sI u 0 0 0 = u0 at hM ht ⊢
  simp only [needMask_eq, needWord_eq, needImage_eq, needColumn_eq hC hW, needRow_eq hC hW, needWidth_eq, xB_gX, isMask_eq, isWord_eq, isColumn_eq hM hW, isRow_eq hM hW, areIn_eq hM hW, isIn_eq, rg_if, needArgument_eq, needState_eq, Option.bind_some, if_bI, fails_eq, t64, I_m192, I_m62, I_m9, I_0, I_1, I_2, I_3, I_5, I_9, I_16, I_62, I_63, I_64, I_192, I_1000, L_m192, L_m62, L_m9, L_0, L_1, L_2, L_3, L_5, L_9, L_16, L_62, L_63, L_64, L_192, L_1000]
  by_cases h1 : inB a0 k = true
  case neg =>
    rw [Bool.not_eq_true] at h1
    simp only [h1, Bool.false_and, Bool.and_false, Bool.and_self, Bool.true_and, Bool.and_true, Bool.false_eq_true, eq_self, if_true, if_false, reduceIte, ite_self]
    exact Agr.err hW hI 0 rfl rfl rfl sIs hC (hM.sI0 (Or.inl rfl))
  by_cases h2 : inB a1 k = true
  case neg =>
    rw [Bool.not_eq_true] at h2
    simp only [h1, h2, Bool.false_and, Bool.and_false, Bool.and_self, Bool.true_and, Bool.and_true, Bool.false_eq_true, eq_self, if_true, if_false, reduceIte, ite_self]
    exact Agr.err hW hI 0 rfl rfl rfl sIs hC (hM.sI0 (Or.inl rfl))
  by_cases h3 : inB a3 8 = true
  case neg =>
    rw [Bool.not_eq_true] at h3
    simp only [h1, h2, h3, Bool.false_and, Bool.and_false, Bool.and_self, Bool.true_and, Bool.and_true, Bool.false_eq_true, eq_self, if_true, if_false, reduceIte, ite_self]
    exact Agr.err hW hI 0 rfl rfl rfl sIs hC (hM.sI0 (Or.inl rfl))
  simp only [h1, h2, h3, Bool.false_and, Bool.and_false, Bool.and_self, Bool.true_and, Bool.and_true, Bool.false_eq_true, eq_self, if_true, if_false, reduceIte, ite_self]
  obtain ⟨c, hc, rfl⟩ := inB_ex hW.k31 h1
  obtain ⟨d, hd, rfl⟩ := inB_ex hW.k31 h2
  obtain ⟨m, hm, rfl⟩ := inB_ex (by decide) h3
  have hc6 := hW.c6 hc
  have hd6 := hW.c6 hd
  have hw := hW.hw hc
  have hF := @sumOr_eq
  generalize c_X3_sumOrTooGreat = F at hF ⊢
  refine Agr.bindC (expect_eq hC hW hc) (fun σ1 h1 => ?_)
  refine Agr.bindC (cact (c := c) (fun r => C d r != ((-9223372036854775808) : Int64) && (C c r != ((-9223372036854775808) : Int64) && M m r)) (fun r => sumG (C c r) (if a2 = 0 then C d r else -(C d r))) hW (hC.oc (by decide) h1.1) h1.2 (fun i a σ' hi hC' => ?_) (fun a σ' hC' => ?_)) (fun z hz => ?_)
  · simp only [hC'.rows, if_neg (ltL n hW.n31 hi), areBoth_eq hC' hW hc hd hi hm, Option.bind_some, if_bI]
    by_cases e : (C d i != ((-9223372036854775808) : Int64) && (C c i != ((-9223372036854775808) : Int64) && M m i)) = true
    · have e1 := Bool.and_eq_true_iff.mp e
      have b := cell_in hW hc hi (nbN (Bool.and_eq_true_iff.mp e1.2).1)
      rw [if_pos e, if_pos e, ix6 hd6, Option.bind_some, ix192 (hW.r192 hi), Option.bind_some, ix6 hc6, Option.bind_some, Option.bind_some, hC'.cell hd hi, hC'.cell hc hi]
      by_cases q : a2 = 0
      · rw [if_pos q, if_pos q, Option.bind_some, hF σ' _ b.1 b.2, Option.bind_some, Option.bind_some, Option.bind_some, nI_s]
      · rw [if_neg q, if_neg q, Option.bind_some, hF σ' _ b.1 b.2, Option.bind_some, Option.bind_some, Option.bind_some, nI_s]
    · rw [if_neg e, if_neg e, Option.bind_some, nI_s]
  · simp only [hC'.rows]
    exact if_pos (geL n hW.n31)
  refine Agr.bindM (begins_wp hM ht) (fun u1 hu1 => ?_)
  obtain ⟨hM1, ht1, h14, h9⟩ := hu1
  refine Agr.bindM (mact (c := c) (fun r => C d r != ((-9223372036854775808) : Int64) && (C c r != ((-9223372036854775808) : Int64) && M m r)) (fun r => sumG (C c r) (if a2 = 0 then C d r else -(C d r))) hW hM1 ht1 h14 h9 (fun i u' hi hM' => ?_) (fun u' hM' => ?_)) (fun u2 hu2 => ?_)
  · have hi2 := hW.r192 hi
    simp only [hM'.rows, if_neg (ltL n hW.n31 hi), hasUnder_eq hM' hW hc hi2 hm, Option.bind_some, if_bI]
    by_cases e2 : (C c i != ((-9223372036854775808) : Int64) && M m i) = true
    · by_cases e3 : (C d i != ((-9223372036854775808) : Int64)) = true
      · have hN := nbN (Bool.and_eq_true_iff.mp e2).1
        have hN2 := nbN e3
        have b := cell_in hW hc hi hN
        have b2 := cell_in hW hd hi hN2
        have e : (C d i != ((-9223372036854775808) : Int64) && (C c i != ((-9223372036854775808) : Int64) && M m i)) = true := by rw [e3, e2]; rfl
        have f1 := sumG_fit (a := w c) (v := if a2 = 0 then C d i else -(C d i)) hw.2 b.1 b.2
        have hp := p2_62 (j := w c - 1) (by omega)
        rw [if_pos e2, at_eq, Option.bind_some, ixA hd6 hi2, Option.bind_some, hM'.has' hW hd hi, if_bI, if_pos e3, at_eq, Option.bind_some, ixA hd6 hi2, Option.bind_some, hM'.cell hd hi hN2, nI_s]
        have key : ∀ y : Int64, y.toInt = (C c i).toInt + (if a2 = 0 then C d i else -(C d i)).toInt → y = C c i + (if a2 = 0 then C d i else -(C d i)) → wp (((m_X4_lays u' (nI c) (nI i) y).bind fun v46 => some v46).bind fun t21 => some (.inl (nI (i + 1), t21) : (Int32 × St) ⊕ St)) (fun o => ∃ u'', o = .inl (nI (i + 1), u'') ∧ stepM (w c) (fun r => C d r != ((-9223372036854775808) : Int64) && (C c r != ((-9223372036854775808) : Int64) && M m r)) (fun r => sumG (C c r) (if a2 = 0 then C d r else -(C d r))) i u' u'') := by
          intro y hy hy2
          rw [lays_eq hM' hW hc hi2, Option.bind_some, Option.bind_some]
          cases q : fitB (w c) y with
          | true =>
            have ef : fitB (w c) (sumG (C c i) (if a2 = 0 then C d i else -(C d i))) = true := f1.mpr (by
              rw [fitB_t] at q
              unfold Fit at q
              omega)
            simp only [Bool.false_and, Bool.and_false, Bool.and_self, Bool.true_and, Bool.and_true, Bool.false_eq_true, eq_self, if_true, if_false, reduceIte, ite_self]
            refine wp_some ⟨_, rfl, Or.inr (Or.inl ⟨e, ef, ?_⟩)⟩
            show mLay u' i y = mLay u' i (sumG (C c i) (if a2 = 0 then C d i else -(C d i)))
            rw [sumG_ok hw.2 ef, hy2]
          | false =>
            have ef : fitB (w c) (sumG (C c i) (if a2 = 0 then C d i else -(C d i))) = false := by
              cases q2 : fitB (w c) (sumG (C c i) (if a2 = 0 then C d i else -(C d i)))
              · rfl
              · have := f1.mp q2
                have q3 : fitB (w c) y = true := by
                  rw [fitB_t]
                  unfold Fit
                  omega
                rw [q3] at q; cases q
            simp only [Bool.false_and, Bool.and_false, Bool.and_self, Bool.true_and, Bool.and_true, Bool.false_eq_true, eq_self, if_true, if_false, reduceIte, ite_self]
            exact wp_some ⟨_, rfl, Or.inr (Or.inr ⟨e, ef, Or.inr ⟨y, rfl⟩⟩)⟩
        by_cases q : a2 = 0
        · simp only [if_pos q] at key
          rw [if_pos q, Option.bind_some, ixA hc6 hi2, Option.bind_some, hM'.cell hc hi hN, Option.bind_some]
          simp only [if_pos q]
          exact key _ (fb_addL (by omega) (by omega)) rfl
        · simp only [if_neg q] at key
          rw [if_neg q, Option.bind_some, ixA hc6 hi2, Option.bind_some, hM'.cell hc hi hN, Option.bind_some]
          simp only [if_neg q]
          refine key _ ?_ ?_
          · rw [fb_subL (by omega) (by omega), negT (by omega)]; omega
          · exact Int64.sub_eq_add_neg _ _
      · rw [if_pos e2, at_eq, Option.bind_some, ixA hd6 hi2, Option.bind_some, hM'.has' hW hd hi, if_bI, if_neg e3, Option.bind_some, nI_s]
        rw [Bool.not_eq_true] at e3
        exact wp_some ⟨_, rfl, Or.inl ⟨by show (C d i != ((-9223372036854775808) : Int64) && (C c i != ((-9223372036854775808) : Int64) && M m i)) = false; rw [e3]; rfl, rfl⟩⟩
    · rw [if_neg e2, Option.bind_some, nI_s]
      rw [Bool.not_eq_true] at e2
      exact wp_some ⟨_, rfl, Or.inl ⟨by show (C d i != ((-9223372036854775808) : Int64) && (C c i != ((-9223372036854775808) : Int64) && M m i)) = false; rw [e2, Bool.and_false], rfl⟩⟩
  · simp only [hM'.rows]
    exact if_pos (geL n hW.n31)
  exact act_end hW hI hc 1 rfl hz (fun r hr e _ => by
    have e1 := Bool.and_eq_true_iff.mp e
    have b := cell_in hW hc hr (nbN (Bool.and_eq_true_iff.mp e1.2).1)
    exact sumG_N b.1 b.2) hu2
