/-! ===== share, upset ===== -/
theorem ceil_le {a n i : Nat} (hn : 0 < n) : a ≤ i * n ↔ (a + n - 1) / n ≤ i := by
  have h1 : (a + n - 1) / n ≤ i ↔ (a + n - 1) / n < i + 1 := by omega
  rw [h1, Nat.div_lt_iff_lt_mul hn, Nat.succ_mul]
  omega
theorem op_share (I : Ims) (s u : St) (a0 a1 a2 a3 : Int32) (h : Rl I s u) : Agr ["java/lang/IndexOutOfBoundsException", "java/lang/IllegalArgumentException"] (Rl I) (c_X3_share s a0 a1 a2 a3) (m_X4_share u a0 a1 a2 a3) := by
  obtain ⟨n, k, w, C, M, q, J, hW, hC, hM0, hI⟩ := h
  unfold c_X3_share m_X4_share
  have hM : RM n k w C M q J (sI u 0 0 0) := hM0.sI0 (Or.inl rfl)
  have ht : (sI u 0 0 0).1 0 0 = 0 := sIs
  generalize sI u 0 0 0 = u0 at hM ht ⊢
  simp only [needMask_eq, needWord_eq, needImage_eq, needColumn_eq hC hW, needRow_eq hC hW, needWidth_eq, xB_gX, isMask_eq, isWord_eq, isColumn_eq hM hW, isRow_eq hM hW, areIn_eq hM hW, isIn_eq, rg_if, needArgument_eq, needState_eq, Option.bind_some, if_bI, fails_eq, t64, I_m192, I_m62, I_m9, I_0, I_1, I_2, I_3, I_5, I_9, I_16, I_62, I_63, I_64, I_192, I_1000, L_m192, L_m62, L_m9, L_0, L_1, L_2, L_3, L_5, L_9, L_16, L_62, L_63, L_64, L_192, L_1000]
  by_cases h1 : inB a0 k = true
  case neg =>
    rw [Bool.not_eq_true] at h1
    simp only [h1, Bool.false_and, Bool.and_false, Bool.and_self, Bool.true_and, Bool.and_true, Bool.false_eq_true, eq_self, if_true, if_false, reduceIte, ite_self]
    exact Agr.err hW hI 0 rfl rfl rfl sIs hC (hM.sI0 (Or.inl rfl))
  by_cases h2 : inB a1 8 = true
  case neg =>
    rw [Bool.not_eq_true] at h2
    simp only [h1, h2, Bool.false_and, Bool.and_false, Bool.and_self, Bool.true_and, Bool.and_true, Bool.false_eq_true, eq_self, if_true, if_false, reduceIte, ite_self]
    exact Agr.err hW hI 0 rfl rfl rfl sIs hC (hM.sI0 (Or.inl rfl))
  by_cases h3 : rg a3.toInt 1 1000 = true
  case neg =>
    rw [Bool.not_eq_true] at h3
    simp only [h1, h2, h3, Bool.false_and, Bool.and_false, Bool.and_self, Bool.true_and, Bool.and_true, Bool.false_eq_true, eq_self, if_true, if_false, reduceIte, ite_self]
    exact Agr.err hW hI 1 rfl rfl rfl sIs hC (hM.sI0 (Or.inl rfl))
  by_cases h4 : rg a2.toInt 0 a3.toInt = true
  case neg =>
    rw [Bool.not_eq_true] at h4
    simp only [h1, h2, h3, h4, Bool.false_and, Bool.and_false, Bool.and_self, Bool.true_and, Bool.and_true, Bool.false_eq_true, eq_self, if_true, if_false, reduceIte, ite_self]
    exact Agr.err hW hI 1 rfl rfl rfl sIs hC (hM.sI0 (Or.inl rfl))
  simp only [h1, h2, h3, h4, Bool.false_and, Bool.and_false, Bool.and_self, Bool.true_and, Bool.and_true, Bool.false_eq_true, eq_self, if_true, if_false, reduceIte, ite_self]
  obtain ⟨c, hc, rfl⟩ := inB_ex hW.k31 h1
  obtain ⟨m, hm, rfl⟩ := inB_ex (by decide) h2
  have r3 := rg_t h3
  have r4 := rg_t h4
  obtain ⟨N, hN, rfl⟩ := nI_of (x := a3) (by rw [fa_lt, show (0 : Int32).toInt = 0 from by decide]; omega)
  obtain ⟨K, hK, rfl⟩ := nI_of (x := a2) (by rw [fa_lt, show (0 : Int32).toInt = 0 from by decide]; omega)
  rw [nI_toInt hN] at r3 r4
  rw [nI_toInt hK] at r4
  refine Agr.sorted hC hM hW ht hc hm (fun p v L hCp hP _ _ hMv htv hl => ?_)
  have h192 := hP.2.1
  have hll : (L.map Prod.snd).length = L.length := List.length_map ..
  rw [if_neg (nI_ne0 (by omega) hN)]
  have hq : K * L.length ≤ N * 192 := Nat.mul_le_mul (by omega) h192
  have hq2 : N * 192 ≤ 1000 * 192 := Nat.mul_le_mul (by omega) (Nat.le_refl _)
  have hd : (K * L.length + N - 1) / N ≤ K * L.length + N - 1 := Nat.div_le_self _ _
  rw [hP.1, pk_mul, nI_add, show (1 : Int32) = nI 1 from rfl, pk_sub (by omega), pk_div (by omega) (by omega) hN]
  have emax : c_J9_max_7cf53 p.2 (nI ((K * L.length + N - 1) / N) - nI 1) 0 = some (nI ((K * L.length + N - 1) / N - 1)) := by
    unfold c_J9_max_7cf53
    cases e : (K * L.length + N - 1) / N with
    | zero => rfl
    | succ j =>
      rw [pk_sub (by omega), Nat.add_sub_cancel, if_neg (nI_pos (by omega))]; rfl
  rw [emax, Option.bind_some, numOr_eq hP, Option.bind_some, nI_toInt (by omega)]
  have hce : ∀ i, K * L.length ≤ i * N ↔ (K * L.length + N - 1) / N ≤ i := fun i => ceil_le (by omega)
  generalize hj : (K * L.length + N - 1) / N = J0 at *
  have hcl : L.length = 0 ∨ J0 ≤ L.length := Or.inr ((hce L.length).mp (by rw [Nat.mul_comm]; exact Nat.mul_le_mul_left _ (by omega)))
  have hm1 : ∀ i, i < (L.map Prod.snd).length → v.2 6 i = (L.map Prod.snd).getD i ((-9223372036854775808) : Int64) := fun i hi => hl.num hi
  have e10 := hl.1
  rw [← hll] at h192 hcl hq hce
  generalize L.map Prod.snd = l at *
  rw [← hll] at hd
  have key : wp (lp 5000 (fun (s14 : Int32) => (if v.1 0 10 ≤ s14 then some (Sum.inr (Sum.inl ())) else (if v.1 0 10 ≤ (s14 + (nI 1)) then (if ((s14 + (nI 1)) * nI N) < (nI K * v.1 0 10) then some (Sum.inl (s14 + nI 1)) else ((ix s14 192).bind fun j24 => some (Sum.inr (Sum.inr (v.2 6 j24, v))))) else ((ix (s14 + (nI 1)) 192).bind fun j26 => ((ix s14 192).bind fun j28 => (if v.2 6 j26 = v.2 6 j28 then some (Sum.inl (s14 + nI 1)) else (if ((s14 + (nI 1)) * nI N) < (nI K * v.1 0 10) then some (Sum.inl (s14 + nI 1)) else ((ix s14 192).bind fun j32 => some (Sum.inr (Sum.inr (v.2 6 j32, v)))))))))) ) (0 : Int32)) (fun (r : Unit ⊕ (Int64 × St)) => (l.length = 0 ∧ r = Sum.inl ()) ∨ (0 < l.length ∧ r = Sum.inr (l.getD (J0 - 1) ((-9223372036854775808) : Int64), v))) := by
    refine wp_lp l.length (fun i (z : Int32) => z = nI i ∧ (i = l.length → l.length = 0) ∧ (J0 - 1 ≤ i → i < l.length → l.getD i ((-9223372036854775808) : Int64) = l.getD (J0 - 1) ((-9223372036854775808) : Int64))) (by omega) ⟨rfl, fun g => g.symm, fun g _ => by rw [show J0 - 1 = 0 by omega]⟩ (fun i z hi hJ => ?_) (fun z hJ => ?_)
    · obtain ⟨rfl, g1, g2⟩ := hJ
      have em : (nI i + nI 1) * nI N = nI ((i + 1) * N) := by rw [nI_add, pk_mul]
      have b1 : (i + 1) * N ≤ 192 * 1000 := Nat.mul_le_mul (by omega) (by omega)
      have ek : nI K * nI l.length = nI (K * l.length) := pk_mul _ _
      have hlt : (nI i + nI 1) * nI N < nI K * nI l.length ↔ ¬ J0 ≤ i + 1 := by
        rw [em, ek, nI_ltI (by omega) (by omega), ← hce]
        omega
      show wp (if v.1 0 10 ≤ nI i then _ else _) _
      rw [e10, if_neg (ltL _ (by omega) hi)]
      have last : i + 1 ≤ l.length → J0 ≤ i + 1 → wp ((ix (nI i) 192).bind fun j24 => some (Sum.inr (α := Int32) (Sum.inr (α := Unit) (v.2 6 j24, v)))) (lpP (fun z => z = nI (i + 1) ∧ (i + 1 = l.length → l.length = 0) ∧ (J0 - 1 ≤ i + 1 → i + 1 < l.length → l.getD (i + 1) ((-9223372036854775808) : Int64) = l.getD (J0 - 1) ((-9223372036854775808) : Int64))) (fun (r : Unit ⊕ (Int64 × St)) => (l.length = 0 ∧ r = Sum.inl ()) ∨ (0 < l.length ∧ r = Sum.inr (l.getD (J0 - 1) ((-9223372036854775808) : Int64), v)))) := fun _ h5 => by
        rw [ix192 (by omega), Option.bind_some]
        refine wp_some (Or.inr ⟨by omega, ?_⟩)
        rw [hm1 i hi, g2 (by omega) hi]
      by_cases e : l.length ≤ i + 1
      · have h5 : J0 ≤ i + 1 := by omega
        rw [if_pos (show nI l.length ≤ nI i + nI 1 by rw [nI_add]; exact nI_le e (by omega)), if_neg (fun z => hlt.mp z h5)]
        exact last (by omega) h5
      · rw [if_neg (show ¬ nI l.length ≤ nI i + nI 1 by rw [nI_add]; exact ltL _ (by omega) (by omega))]
        rw [show ix (nI i + nI 1) 192 = some (i + 1) by rw [nI_add]; exact ix192 (by omega), Option.bind_some, ix192 (by omega), Option.bind_some, hm1 i hi, hm1 (i + 1) (by omega)]
        by_cases e2 : l.getD (i + 1) ((-9223372036854775808) : Int64) = l.getD i ((-9223372036854775808) : Int64)
        · rw [if_pos e2]
          refine wp_some ⟨nI_add i 1, fun z => by omega, fun z1 z2 => ?_⟩
          by_cases e3 : J0 - 1 ≤ i
          · rw [e2]; exact g2 e3 hi
          · rw [show J0 - 1 = i + 1 by omega]
        · rw [if_neg e2]
          by_cases e3 : J0 ≤ i + 1
          · rw [if_neg (fun z => hlt.mp z e3)]
            have := last (by omega) e3
            rw [ix192 (by omega)] at this
            exact this
          · rw [if_pos (hlt.mpr e3)]
            refine wp_some ⟨nI_add i 1, fun z => by omega, fun z1 z2 => ?_⟩
            rw [show J0 - 1 = i + 1 by omega]
    · obtain ⟨rfl, g1, g2⟩ := hJ
      show wp (if v.1 0 10 ≤ nI l.length then _ else _) _
      rw [e10, if_pos (geL _ (by omega))]
      exact wp_some (Or.inl ⟨g1 rfl, rfl⟩)
  obtain ⟨r, er, hr⟩ := key
  rw [er]
  unfold pickAt
  rcases hr with ⟨g1, rfl⟩ | ⟨g1, rfl⟩
  · rw [if_neg (by omega)]
    exact Agr.ok hW hI rfl rfl htv hCp hMv
  · rw [if_pos (by omega), show (((J0 - 1 : Nat) : Int)).toNat = J0 - 1 from rfl]
    exact Agr.ok hW hI rfl rfl htv hCp hMv
