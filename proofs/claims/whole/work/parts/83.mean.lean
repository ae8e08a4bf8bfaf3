/-! ===== mean ===== -/
theorem lb_63 (x : Int64) : lb x 63 = decide (x.toInt < 0) := by
  unfold lb
  have h := BitVec.msb_eq_getLsbD_last x.toBitVec
  rw [← show x.toBitVec.getLsbD (64 - 1) = x.toBitVec.getLsbD 63 from rfl, ← h, BitVec.msb_eq_toInt]
  rfl
theorem xor_sign {x m : Int64} (hm : 0 ≤ m.toInt) : ((0 : Int64) ≤ x ^^^ m) ↔ 0 ≤ x.toInt := by
  rw [fa_le64, L_0]
  have h1 := lb_63 (x ^^^ m)
  rw [lb_xor, lb_63, lb_63, decide_eq_false (show ¬ m.toInt < 0 by omega), Bool.xor_false] at h1
  have h2 := decide_eq_decide.mp h1
  omega
/-- the quotient, cut towards 0, and what is left -/
theorem quo {x m : Int64} (hm : 0 < m.toInt) : (x / m).toInt = x.toInt.tdiv m.toInt ∧ (x - x / m * m).toInt = x.toInt.tmod m.toInt := by
  have hx := fb_rngL x
  have hmr := fb_rngL m
  have e1 : (x / m).toInt = x.toInt.tdiv m.toInt := by
    rw [Int64.toInt_div]
    have h1 : (x.toInt.tdiv m.toInt).natAbs ≤ x.toInt.natAbs := by
      rw [Int.natAbs_tdiv]
      exact Nat.div_le_self _ _
    by_cases hp : 0 ≤ x.toInt
    · have h2 : 0 ≤ x.toInt.tdiv m.toInt := Int.tdiv_nonneg hp (by omega)
      exact fb_bmodL (by omega) (by omega)
    · exact fb_bmodL (by omega) (by
        have h2 : x.toInt.tdiv m.toInt ≤ 0 := by
          have := Int.tdiv_nonneg (a := -x.toInt) (b := m.toInt) (by omega) (by omega)
          rw [Int.neg_tdiv] at this
          omega
        omega)
  refine ⟨e1, ?_⟩
  have h3 := Int.tmod_add_mul_tdiv x.toInt m.toInt
  have h4 : (x.toInt.tmod m.toInt).natAbs ≤ x.toInt.natAbs := by
    rw [Int.natAbs_tmod]
    exact Nat.mod_le _ _
  have h6 : 0 ≤ x.toInt → 0 ≤ x.toInt.tmod m.toInt := fun h => Int.tmod_nonneg _ h
  have h7 : x.toInt ≤ 0 → x.toInt.tmod m.toInt ≤ 0 := fun h => by
    have := Int.tmod_nonneg (a := -x.toInt) m.toInt (by omega)
    rw [Int.neg_tmod] at this
    omega
  have e2 : (x / m * m).toInt = x.toInt - x.toInt.tmod m.toInt := by
    have e3 : (x / m).toInt * m.toInt = x.toInt - x.toInt.tmod m.toInt := by
      rw [e1, Int.mul_comm]; omega
    rw [fb_mulL (by rw [e3]; rcases Int.le_total 0 x.toInt with q | q; · have := h6 q; omega
                    · have := h7 q; omega) (by rw [e3]; rcases Int.le_total 0 x.toInt with q | q; · have := h6 q; omega
                                               · have := h7 q; omega), e3]
  rw [fb_subL (by rw [e2]; omega) (by rw [e2]; omega), e2]
  omega
def cutQ (x m : Int64) : Int64 := if (0 : Int64) ≤ x - x / m * m then x / m else x / m - 1
theorem ne0_of {m : Int64} (hm : 0 < m.toInt) : ¬ m = 0 := fun q => by rw [q, L_0] at hm; omega
theorem cutDown_eq (u : St) {x m : Int64} (hm : 0 < m.toInt) : m_X4_cutDown u x m = some (cutQ x m) := by
  unfold m_X4_cutDown cutQ
  rw [if_neg (ne0_of hm), if_neg (ne0_of hm)]
  split <;> rfl
theorem floorDiv_eq (σ : St) {x m : Int64} (hm : 0 < m.toInt) : c_J9_floorDiv_f86c9 σ x m = some (cutQ x m) := by
  unfold c_J9_floorDiv_f86c9 cutQ
  obtain ⟨q1, q2⟩ := quo (x := x) hm
  rw [if_neg (ne0_of hm)]
  have e1 : ((0 : Int64) ≤ x - x / m * m) ↔ 0 ≤ x.toInt.tmod m.toInt := by rw [fa_le64, L_0, q2]
  by_cases hp : 0 ≤ x.toInt
  · rw [if_pos ((xor_sign (by omega)).mpr hp), if_pos (e1.mpr (Int.tmod_nonneg _ hp))]
  · rw [if_neg (fun q => hp ((xor_sign (by omega)).mp q))]
    have h7 : x.toInt.tmod m.toInt ≤ 0 := by
      have := Int.tmod_nonneg (a := -x.toInt) m.toInt (by omega)
      rw [Int.neg_tmod] at this
      omega
    by_cases e : x / m * m = x
    · rw [if_pos e, if_pos (e1.mpr ?_)]
      have : (x - x / m * m).toInt = 0 := by rw [e, Int64.sub_self, L_0]
      rw [q2] at this
      omega
    · rw [if_neg e, if_neg (fun q => e ?_)]
      have h8 := e1.mp q
      have h9 : (x - x / m * m).toInt = 0 := by rw [q2]; omega
      have h10 : x - x / m * m = 0 := by rw [fa_eq64, h9, L_0]
      have := congrArg (fun y => y + x / m * m) h10
      simp only [Int64.sub_add_cancel, Int64.zero_add] at this
      exact this.symm
theorem floorMod_eq (σ : St) {x m : Int64} (hm : 0 < m.toInt) : c_J9_floorMod_f86c9 σ x m = some (x - cutQ x m * m) := by
  unfold c_J9_floorMod_f86c9 cutQ
  obtain ⟨q1, q2⟩ := quo (x := x) hm
  rw [if_neg (ne0_of hm)]
  have e1 : ((0 : Int64) ≤ x - x / m * m) ↔ 0 ≤ x.toInt.tmod m.toInt := by rw [fa_le64, L_0, q2]
  by_cases hp : 0 ≤ x.toInt
  · rw [if_pos ((xor_sign (by omega)).mpr hp), if_pos (e1.mpr (Int.tmod_nonneg _ hp))]
  · rw [if_neg (fun q => hp ((xor_sign (by omega)).mp q))]
    have h7 : x.toInt.tmod m.toInt ≤ 0 := by
      have := Int.tmod_nonneg (a := -x.toInt) m.toInt (by omega)
      rw [Int.neg_tmod] at this
      omega
    by_cases e : x - x / m * m = 0
    · rw [if_pos e, if_pos (by rw [e]; decide)]
    · rw [if_neg e, if_neg (fun q => e ?_)]
      · rw [Int64.sub_mul, Int64.one_mul]
        congr 1
        rw [Int64.sub_eq_add_neg, Int64.sub_eq_add_neg, Int64.sub_eq_add_neg, Int64.neg_add, Int64.sub_eq_add_neg, Int64.neg_neg, Int64.add_assoc]
      · have h8 := e1.mp q
        rw [fa_eq64, q2, L_0]; omega
theorem op_mean (I : Ims) (s u : St) (a0 a1 a2 : Int32) (h : Rl I s u) : Agr ["java/lang/IndexOutOfBoundsException", "java/lang/IllegalArgumentException", "java/lang/IllegalStateException"] (Rl I) (c_X3_mean s a0 a1 a2) (m_X4_mean u a0 a1 a2) := by
  obtain ⟨n, k, w, C, M, q, J, hW, hC, hM0, hI⟩ := h
  unfold c_X3_mean m_X4_mean
  have hM : RM n k w C M q J (sI u 0 0 0) := hM0.sI0 (Or.inl rfl)
  have ht : (sI u 0 0 0).1 0 0 = 0 := sIs
  generalize sI u 0 0 0 = u0 at hM ht ⊢
  simp only [needMask_eq, needWord_eq, needImage_eq, needColumn_eq hC hW, needRow_eq hC hW, needWidth_eq, xB_gX, isMask_eq, isWord_eq, isColumn_eq hM hW, isRow_eq hM hW, areIn_eq hM hW, isIn_eq, rg_if, needArgument_eq, needState_eq, Option.bind_some, if_bI, fails_eq, t64, I_m192, I_m62, I_m9, I_0, I_1, I_2, I_3, I_5, I_9, I_16, I_62, I_63, I_64, I_192, I_1000, L_m192, L_m62, L_m9, L_0, L_1, L_2, L_3, L_5, L_9, L_16, L_62, L_63, L_64, L_192, L_1000]
  by_cases h1 : inB a0 k = true
  case neg =>
    rw [Bool.not_eq_true] at h1
    simp only [h1, Bool.false_and, Bool.and_false, Bool.and_self, Bool.true_and, Bool.and_true, Bool.false_eq_true, eq_self, if_true, if_false, reduceIte, ite_self]
    exact Agr.err hW hI 0 rfl rfl rfl sIs hC (hM.sI0 (Or.inl rfl))
  by_cases h2 : inB a1 8 = true
  case neg =>
    rw [Bool.not_eq_true] at h2
    simp only [h1, h2, Bool.false_and, Bool.and_false, Bool.and_self, Bool.true_and, Bool.and_true, Bool.false_eq_true, eq_self, if_true, if_false, reduceIte, ite_self]
    exact Agr.err hW hI 0 rfl rfl rfl sIs hC (hM.sI0 (Or.inl rfl))
  simp only [h1, h2, Bool.false_and, Bool.and_false, Bool.and_self, Bool.true_and, Bool.and_true, Bool.false_eq_true, eq_self, if_true, if_false, reduceIte, ite_self]
  obtain ⟨c, hc, rfl⟩ := inB_ex hW.k31 h1
  obtain ⟨m, hm, rfl⟩ := inB_ex (by decide) h2
  have e9 : (if a2 = 0 then some (1 : Int32) else (if a2 = (1 : Int32) then some (1 : Int32) else some (0 : Int32))) = some (bI (rg a2.toInt 0 1)) := by
    unfold rg
    by_cases q0 : a2 = 0
    · rw [if_pos q0, q0]; rfl
    · rw [if_neg q0]
      by_cases q1 : a2 = 1
      · rw [if_pos q1, q1]; rfl
      · rw [if_neg q1]
        have n0 : a2.toInt ≠ 0 := fun q => q0 (by rw [fa_eq, q, I_0])
        have n1 : a2.toInt ≠ 1 := fun q => q1 (by rw [fa_eq, q, I_1])
        by_cases z : 0 ≤ a2.toInt
        · rw [decide_eq_false (show ¬ a2.toInt ≤ 1 by omega), Bool.and_false]; rfl
        · rw [decide_eq_false z, Bool.false_and]; rfl
  rw [e9, Option.bind_some, needArgument_eq, xB_gX]
  by_cases h3 : rg a2.toInt 0 1 = true
  case neg =>
    rw [Bool.not_eq_true] at h3
    simp only [h1, h2, h3, Bool.false_and, Bool.and_false, Bool.and_self, Bool.true_and, Bool.and_true, Bool.false_eq_true, eq_self, if_true, if_false, reduceIte, ite_self]
    exact Agr.err hW hI 1 rfl rfl rfl sIs hC (hM.sI0 (Or.inl rfl))
  simp only [h1, h2, h3, Bool.false_and, Bool.and_false, Bool.and_self, Bool.true_and, Bool.and_true, Bool.false_eq_true, eq_self, if_true, if_false, reduceIte, ite_self]
  refine Agr.bindC (gather_wp hC hW hc hm) (fun τ hτ => ?_)
  refine Agr.bindM (lists_wp hM hW hc hm ht) (fun v hv => ?_)
  obtain ⟨hMv, htv, l, hl, hs, hp⟩ := hv
  have hlen : l.length = (gl (fun r => C c r != ((-9223372036854775808) : Int64) && M m r) (C c) n).length := by
    rw [hp.length_eq, List.length_map]
  have hl1 := hl.1
  rw [hlen] at hl1
  rw [hτ.2.1, hl1]
  have hg := hτ.2.2.1
  generalize hG : gl (fun r => C c r != ((-9223372036854775808) : Int64) && M m r) (C c) n = G at *
  by_cases hz : G.length = 0
  · rw [hz, if_pos (show nI 0 ≤ 0 by decide), if_pos (show nI 0 = 0 from rfl), Option.bind_some]
    exact Agr.err hW hI 2 rfl rfl rfl sIs hτ.1 (hMv.sI0 (Or.inl rfl))
  · rw [if_neg (show ¬ nI G.length ≤ 0 from nI_nle (by omega) (by omega)), if_neg (show ¬ nI G.length = 0 from nI_ne0 (by omega) (by omega)), Option.bind_some, show c_X3_needState τ (1 : Int32) = some (gX true "java/lang/IllegalStateException", τ) from rfl, xB_gX, if_pos rfl]
    have hmT : 0 < ((nI G.length).toInt64).toInt := by rw [t64, nI_toInt (by omega)]; omega
    generalize hMM : (nI G.length).toInt64 = mm at hmT ⊢
    rw [lp_listE (A := Int64 × Int64) (fun a i => (a.1, a.2, i)) (fun a => a) G (fun a x => (a.1 + cutQ x.2 mm, a.2 + (x.2 - cutQ x.2 mm * mm))) (0, 0) rfl hg (fun i x a e => ?_) (fun a => if_pos (geL G.length (by omega)))]
    rw [lp_listE (A := Int64 × Int64) (fun a i => (a.1, a.2, i)) (fun a => a) l (fun a x => (a.1 + cutQ x mm, a.2 + (x - cutQ x mm * mm))) (0, 0) rfl hl.2.1 (fun i x a e => ?_) (fun a => ?_)]
    · have ef : l.foldl (fun (a : Int64 × Int64) x => (a.1 + cutQ x mm, a.2 + (x - cutQ x mm * mm))) (0, 0) = G.foldl (fun (a : Int64 × Int64) x => (a.1 + cutQ x.2 mm, a.2 + (x.2 - cutQ x.2 mm * mm))) (0, 0) := by
        rw [hp.foldl_eq' (fun x _ y _ z => ?_) (0, 0), List.foldl_map]
        refine Prod.ext ?_ ?_
        · show z.1 + _ + _ = z.1 + _ + _
          rw [Int64.add_assoc, Int64.add_comm (cutQ x mm), ← Int64.add_assoc]
        · show z.2 + _ + _ = z.2 + _ + _
          rw [Int64.add_assoc, Int64.add_comm (x - cutQ x mm * mm), ← Int64.add_assoc]
      rw [ef, Option.bind_some, Option.bind_some]
      have hm0 := ne0_of hmT
      simp only [if_neg hm0]
      by_cases q0 : a2 = 0
      · simp only [if_pos q0, Option.bind_some]
        exact Agr.ok hW hI rfl rfl htv hτ.1 hMv
      · simp only [if_neg q0, Option.bind_some]
        exact Agr.ok hW hI rfl rfl htv hτ.1 hMv
    · obtain ⟨g1, g2, g3⟩ := hl.get e
      simp only [if_neg (ltL G.length (by omega) (by omega : i < G.length)), ix192 g1, Option.bind_some, g3, cutDown_eq v hmT, nI_s]
    · simp only [hlen]
      exact if_pos (geL G.length (by omega))
    · obtain ⟨g1, g2, g3, g4⟩ := hτ.2.get e
      simp only [if_neg (ltL G.length (by omega) g2), ix192 g1, Option.bind_some, g4, floorDiv_eq τ hmT, floorMod_eq τ hmT, nI_s]
