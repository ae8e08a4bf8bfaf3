/-! ===== unlike, share ===== -/
theorem uN_c {a b : Int32} {α : Type} {x y : α} : (if b ≤ a then x else y) = (if ¬ a < b then x else y) := by
  by_cases h : a < b
  · rw [if_neg (fun z => by rw [fa_le] at z; rw [fa_lt] at h; omega), if_neg (fun z => z h)]
  · rw [if_pos (by rw [fa_lt] at h; rw [fa_le]; omega), if_pos h]
theorem op_unlike (I : Ims) (s u : St) (a0 a1 a2 : Int32) (h : Rl I s u) : Agr ["java/lang/IndexOutOfBoundsException", "java/lang/IllegalArgumentException"] (Rl I) (c_X3_unlike s a0 a1 a2) (m_X4_unlike u a0 a1 a2) := by
  obtain ⟨n, k, w, C, M, q, J, hW, hC, hM0, hI⟩ := h
  unfold c_X3_unlike m_X4_unlike
  have hM : RM n k w C M q J (sI u 0 0 0) := hM0.sI0 (Or.inl rfl)
  have ht : (sI u 0 0 0).1 0 0 = 0 := sIs
  generalize sI u 0 0 0 = u0 at hM ht ⊢
  simp only [needMask_eq, needWord_eq, needImage_eq, needColumn_eq hC hW, needRow_eq hC hW, needWidth_eq, xB_gX, isMask_eq, isWord_eq, isColumn_eq hM hW, isRow_eq hM hW, areIn_eq hM hW, isIn_eq, rg_if, needArgument_eq, needState_eq, Option.bind_some, if_bI, fails_eq, t64, I_m192, I_m62, I_m9, I_0, I_1, I_2, I_3, I_5, I_9, I_16, I_62, I_63, I_64, I_192, I_1000, L_m192, L_m62, L_m9, L_0, L_1, L_2, L_3, L_5, L_9, L_16, L_62, L_63, L_64, L_192, L_1000]
  by_cases h1 : inB a0 k = true
  case neg =>
    rw [Bool.not_eq_true] at h1
    simp only [h1, Bool.false_and, Bool.and_false, Bool.and_self, Bool.true_and, Bool.and_true, Bool.false_eq_true, eq_self, if_true, if_false, reduceIte, ite_self]
    exact Agr.err hW hI 0 rfl rfl rfl sIs hC (hM.sI0 (Or.inl rfl))
  by_cases h2 : inB a1 8 = true
  case neg =>
    rw [Bool.not_eq_true] at h2
    simp only [h1, h2, Bool.false_and, Bool.and_false, Bool.and_self, Bool.true_and, Bool.and_true, Bool.false_eq_true, eq_self, if_true, if_false, reduceIte, ite_self]
    exact Agr.err hW hI 0 rfl rfl rfl sIs hC (hM.sI0 (Or.inl rfl))
  by_cases h3 : rg a2.toInt 0 2 = true
  case neg =>
    rw [Bool.not_eq_true] at h3
    simp only [h1, h2, h3, Bool.false_and, Bool.and_false, Bool.and_self, Bool.true_and, Bool.and_true, Bool.false_eq_true, eq_self, if_true, if_false, reduceIte, ite_self]
    exact Agr.err hW hI 1 rfl rfl rfl sIs hC (hM.sI0 (Or.inl rfl))
  simp only [h1, h2, h3, Bool.false_and, Bool.and_false, Bool.and_self, Bool.true_and, Bool.and_true, Bool.false_eq_true, eq_self, if_true, if_false, reduceIte, ite_self]
  obtain ⟨c, hc, rfl⟩ := inB_ex hW.k31 h1
  obtain ⟨m, hm, rfl⟩ := inB_ex (by decide) h2
  refine Agr.sorted hC hM hW ht hc hm (fun p v L hCp hP _ _ hMv htv hl => ?_)
  have h192 := hP.2.1
  have hll : (L.map Prod.snd).length = L.length := List.length_map ..
  have hc1 : ∀ i, i < (L.map Prod.snd).length → p.2.2 21 i = (L.map Prod.snd).getD i ((-9223372036854775808) : Int64) := fun i hi => hP.num hi
  have hm1 : ∀ i, i < (L.map Prod.snd).length → v.2 6 i = (L.map Prod.snd).getD i ((-9223372036854775808) : Int64) := fun i hi => hl.num hi
  have e19 : p.2.1 19 0 = nI (L.map Prod.snd).length := by rw [hll]; exact hP.1
  have e10 := hl.1
  rw [← hll] at h192
  generalize L.map Prod.snd = l at *
  have hc2 : wp (lp 5000 (fun (s22 : Int32 × Int32 × Int64 × Int32 × Int32) => (if p.2.1 19 0 ≤ s22.2.2.2.2 then some (.inr (s22.1, s22.2.1, s22.2.2.1)) else ((if s22.2.2.2.2 ≤ 0 then some (0 : Int32) else ((ix s22.2.2.2.2 192).bind fun j34 => ((ix (s22.2.2.2.2 - (1 : Int32)) 192).bind fun j36 => (if p.2.2 21 j34 = p.2.2 21 j36 then some (1 : Int32) else some (0 : Int32))))).bind fun (t30 : Int32) => ((if t30 = 0 then some (1 : Int32) else some (s22.2.2.2.1 + (1 : Int32))).bind fun (t39 : Int32) => ((if t30 = 0 then some (1 : Int32) else some (0 : Int32)).bind fun (t43 : Int32) => ((if t39 ≤ s22.2.1 then some (s22.2.1, s22.2.2.1) else ((ix s22.2.2.2.2 192).bind fun j51 => some (t39, p.2.2 21 j51))).bind fun (t47 : Int32 × Int64) => some (.inl ((s22.1 + t43), t47.1, t47.2, t39, (s22.2.2.2.2 + 1))))))))) ((0 : Int32), (0 : Int32), ((-9223372036854775808) : Int64), (0 : Int32), (0 : Int32))) (fun r => r = uM l l.length) := by
    refine ⟨_, lp_g (fun i => ((uM l i).1, (uM l i).2.1, (uM l i).2.2, uO l i, nI i)) l.length (uM l l.length) rfl (by omega) (fun i hi => ?_) ?_, rfl⟩
    · show (if p.2.1 19 0 ≤ nI i then _ else (if nI i ≤ 0 then some (0 : Int32) else ((ix (nI i) 192).bind fun j34 => ((ix (nI i - (1 : Int32)) 192).bind fun j36 => (if p.2.2 21 j34 = p.2.2 21 j36 then some (1 : Int32) else some (0 : Int32))))).bind fun (t30 : Int32) => ((if t30 = 0 then some (1 : Int32) else some (uO l i + (1 : Int32))).bind fun (t39 : Int32) => ((if t30 = 0 then some (1 : Int32) else some (0 : Int32)).bind fun (t43 : Int32) => ((if t39 ≤ (uM l i).2.1 then some ((uM l i).2.1, (uM l i).2.2) else ((ix (nI i) 192).bind fun j51 => some (t39, p.2.2 21 j51))).bind fun (t47 : Int32 × Int64) => some (Sum.inl (((uM l i).1 + t43), t47.1, t47.2, t39, (nI i + 1))))))) = _
      rw [e19, if_neg (ltL _ (by omega) hi), uA_c hc1 hi h192, Option.bind_some, if_bI, if_bI]
      have e1 : (if uA l i = true then some (uO l i + (1 : Int32)) else some (1 : Int32)) = some (uO l (i + 1)) := by
        rw [uO]
        by_cases g : uA l i = true
        · rw [if_pos g, if_pos g]
        · rw [if_neg g, if_neg g]
      have e2 : (if uA l i = true then some (0 : Int32) else some (1 : Int32)) = some (bI (!uA l i)) := by cases uA l i <;> rfl
      rw [e1, Option.bind_some, e2, Option.bind_some, ix192 (by omega), Option.bind_some, hc1 i hi, nI_s]
      have e3 : (if uO l (i + 1) ≤ (uM l i).2.1 then some ((uM l i).2.1, (uM l i).2.2) else some (uO l (i + 1), l.getD i ((-9223372036854775808) : Int64))) = some (uM l (i + 1)).2 := by
        show _ = some (if uO l (i + 1) ≤ (uM l i).2.1 then (uM l i).2 else (uO l (i + 1), l.getD i ((-9223372036854775808) : Int64)))
        by_cases g : uO l (i + 1) ≤ (uM l i).2.1
        · rw [if_pos g, if_pos g]
        · rw [if_neg g, if_neg g]
      rw [e3, Option.bind_some]
      rfl
    · show (if p.2.1 19 0 ≤ nI l.length then _ else _) = _
      rw [e19, if_pos (geL _ (by omega))]
  have hm2 : wp (lp 5000 (fun (s9 : Int32 × Int32 × Int64 × Int32 × Int32) => (if v.1 0 10 ≤ s9.2.2.2.2 then some (.inr (s9.1, s9.2.1, s9.2.2.1)) else ((if s9.2.2.2.2 = 0 then some (1 : Int32) else ((ix s9.2.2.2.2 192).bind fun j21 => ((ix (s9.2.2.2.2 - (1 : Int32)) 192).bind fun j23 => (if v.2 6 j21 = v.2 6 j23 then some (0 : Int32) else some (1 : Int32))))).bind fun (t17 : Int32) => ((m_X4_flag v t17).bind fun v26 => ((if t17 = 0 then some (s9.2.2.2.1 + (1 : Int32)) else some (1 : Int32)).bind fun (t28 : Int32) => ((if s9.2.1 < t28 then ((ix s9.2.2.2.2 192).bind fun j36 => some (t28, v.2 6 j36)) else some (s9.2.1, s9.2.2.1)).bind fun (t32 : Int32 × Int64) => some (.inl ((s9.1 + v26), t32.1, t32.2, t28, (s9.2.2.2.2 + 1))))))))) ((0 : Int32), (0 : Int32), ((-9223372036854775808) : Int64), (0 : Int32), (0 : Int32))) (fun r => r = uM l l.length) := by
    refine ⟨_, lp_g (fun i => ((uM l i).1, (uM l i).2.1, (uM l i).2.2, uO l i, nI i)) l.length (uM l l.length) rfl (by omega) (fun i hi => ?_) ?_, rfl⟩
    · show (if v.1 0 10 ≤ nI i then _ else (if nI i = 0 then some (1 : Int32) else ((ix (nI i) 192).bind fun j34 => ((ix (nI i - (1 : Int32)) 192).bind fun j36 => (if v.2 6 j34 = v.2 6 j36 then some (0 : Int32) else some (1 : Int32))))).bind fun (t30 : Int32) => ((m_X4_flag v t30).bind fun v26 => ((if t30 = 0 then some (uO l i + (1 : Int32)) else some (1 : Int32)).bind fun (t39 : Int32) => ((if (uM l i).2.1 < t39 then ((ix (nI i) 192).bind fun j51 => some (t39, v.2 6 j51)) else some ((uM l i).2.1, (uM l i).2.2)).bind fun (t47 : Int32 × Int64) => some (Sum.inl (((uM l i).1 + v26), t47.1, t47.2, t39, (nI i + 1))))))) = _
      rw [e10, if_neg (ltL _ (by omega) hi), uA_m hm1 hi h192, Option.bind_some, flag_eq, Option.bind_some, if_bI]
      have e1 : (if (!uA l i) = true then some (1 : Int32) else some (uO l i + (1 : Int32))) = some (uO l (i + 1)) := by
        rw [uO]
        cases uA l i <;> rfl
      rw [e1, Option.bind_some, ix192 (by omega), Option.bind_some, hm1 i hi, nI_s]
      have e3 : (if (uM l i).2.1 < uO l (i + 1) then some (uO l (i + 1), l.getD i ((-9223372036854775808) : Int64)) else some ((uM l i).2.1, (uM l i).2.2)) = some (uM l (i + 1)).2 := by
        show _ = some (if uO l (i + 1) ≤ (uM l i).2.1 then (uM l i).2 else (uO l (i + 1), l.getD i ((-9223372036854775808) : Int64)))
        rw [uN_c]
        by_cases g : (uM l i).2.1 < uO l (i + 1)
        · rw [if_pos g, if_neg (fun z => z g)]
        · rw [if_neg g, if_pos g]
      rw [e3, Option.bind_some]
      rfl
    · show (if v.1 0 10 ≤ nI l.length then _ else _) = _
      rw [e10, if_pos (geL _ (by omega))]
  refine Agr.bindC hc2 (fun r hr => ?_)
  refine Agr.bindM hm2 (fun r2 hr2 => ?_)
  subst hr hr2
  by_cases g0 : a2 = 0
  · rw [if_pos g0, if_pos g0]
    exact Agr.ok hW hI rfl rfl htv hCp hMv
  · rw [if_neg g0, if_neg g0]
    by_cases g1 : a2 = 1
    · rw [if_pos g1]
      exact Agr.ok hW hI rfl rfl htv hCp hMv
    · rw [if_neg g1]
      exact Agr.ok hW hI rfl rfl htv hCp hMv
