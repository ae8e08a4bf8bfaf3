/-! ===== sums of what a row gives, both sides ===== -/
section ACC
variable {n k : Nat} {w : Nat → Nat} {C : Nat → Nat → Int64} {M : Nat → Nat → Bool} {q : Int32} {σ u J : St} {c d m e : Nat} {I : Ims} {tbl : List String}
theorem cacc_wp (h : RC n k w C M q σ) (he : e ≤ 192) (p : Nat → Bool) (g : Nat → Int) (F : Nat → St → Option St) (hF : ∀ i τ z B, i < e → p i = true → B ≤ 3900 → Wd τ z B → wp (F i τ) (fun t => Oc 25 τ t ∧ Wd t (z + g i) (B + 4))) {f : Int32 × St → Option ((Int32 × St) ⊕ St)} (hs : ∀ i τ, i < e → RC n k w C M q τ → f (nI i, τ) = if p i = true then (F i τ).bind fun t => some (.inl (nI (i + 1), t)) else some (.inl (nI (i + 1), τ))) (hx : ∀ τ, RC n k w C M q τ → f (nI e, τ) = some (.inr τ)) : wp (lp 5000 f ((0 : Int32), fL σ 25 0 (fun _ => 0) 4)) (fun τ => RC n k w C M q τ ∧ Wd τ (fb_si (fS p g) e) 800) := by
  refine wp_mono (P := fun τ => RC n k w C M q τ ∧ Wd τ (fb_si (fS p g) e) (4 * e)) (wp_lp e (fun i (z : Int32 × St) => z.1 = nI i ∧ RC n k w C M q z.2 ∧ Wd z.2 (fb_si (fS p g) i) (4 * i)) (by omega) ⟨rfl, show RC n k w C M q (fL σ 25 0 (fun _ => 0) 4) from h.oc (i := 25) (by decide) fL_oc, Wd_0 σ⟩ (fun i z hi hJ => ?_) (fun z hJ => ?_)) (fun τ hτ => ⟨hτ.1, Wd_up hτ.2 (by omega)⟩)
  · obtain ⟨z1, τ⟩ := z
    obtain ⟨e1, h1, h2⟩ := hJ
    simp only at e1 h1 h2
    subst e1
    rw [hs i τ hi h1]
    by_cases p1 : p i = true
    · rw [if_pos p1]
      refine wp_bm (hF i τ _ _ hi p1 (by omega) h2) (fun τ2 h3 => wp_some ⟨rfl, h1.oc (i := 25) (by decide) h3.1, ?_⟩)
      have := h3.2
      rw [fS_t p1 _ rfl] at this
      exact this
    · rw [if_neg p1]
      refine wp_some ⟨rfl, h1, ?_⟩
      show Wd τ _ _
      rw [← fS_f p1]
      exact Wd_up h2 (by omega)
  · obtain ⟨z1, τ⟩ := z
    obtain ⟨e1, h1, h2⟩ := hJ
    simp only at e1 h1 h2
    subst e1
    exact wp_eq (hx τ h1) ⟨h1, h2⟩
theorem macc_wp (h : RM n k w C M q J u) (ht : u.1 0 0 = 0) (hB : mB u 0 0) (hz : mV u = 0) (he : e ≤ 192) (p : Nat → Bool) (g : Nat → Int) (F : Nat → St → Option St) (hF : ∀ i v K, i < e → p i = true → K + 2533274790395904 ≤ 4611686018427387904 → mB v K 0 → wp (F i v) (fun t => Oc 7 v t ∧ mB t (K + 2533274790395904) 0 ∧ mV t = mV v + g i)) {f : Int32 × St → Option ((Int32 × St) ⊕ St)} (hs : ∀ i v, i < e → RM n k w C M q J v → f (nI i, v) = if p i = true then (F i v).bind fun t => some (.inl (nI (i + 1), t)) else some (.inl (nI (i + 1), v))) (hx : ∀ v, RM n k w C M q J v → f (nI e, v) = some (.inr v)) : wp (lp 5000 f ((0 : Int32), u)) (fun v => RM n k w C M q J v ∧ v.1 0 0 = 0 ∧ mB v 500000000000000000 0 ∧ mV v = fb_si (fS p g) e) := by
  refine wp_lp e (fun i (z : Int32 × St) => z.1 = nI i ∧ RM n k w C M q J z.2 ∧ z.2.1 0 0 = 0 ∧ mB z.2 (2533274790395904 * (i : Int)) 0 ∧ mV z.2 = fb_si (fS p g) i) (by omega) ⟨rfl, h, ht, by simpa using hB, by simpa [fb_si] using hz⟩ (fun i z hi hJ => ?_) (fun z hJ => ?_)
  · obtain ⟨z1, v⟩ := z
    obtain ⟨e1, h1, h0, h2, h3⟩ := hJ
    simp only at e1 h1 h0 h2 h3
    subst e1
    rw [hs i v hi h1]
    by_cases p1 : p i = true
    · rw [if_pos p1]
      refine wp_bm (hF i v _ hi p1 (by omega) h2) (fun v2 g2 => wp_some ⟨rfl, h1.oc (i := 7) (by decide) g2.1, ?_, ?_, ?_⟩)
      · show v2.1 0 0 = 0
        rw [(g2.1 0 (by decide)).1]; exact h0
      · have := g2.2.1
        rw [show 2533274790395904 * ((i + 1 : Nat) : Int) = 2533274790395904 * (i : Int) + 2533274790395904 by omega]
        exact this
      · show mV v2 = _
        rw [g2.2.2, h3]
        exact fS_t p1 _ rfl
    · rw [if_neg p1]
      refine wp_some ⟨rfl, h1, h0, ?_, ?_⟩
      · exact mB_up h2 (by omega)
      · show mV v = _
        rw [← fS_f p1]; exact h3
  · obtain ⟨z1, v⟩ := z
    obtain ⟨e1, h1, h0, h2, h3⟩ := hJ
    simp only at e1 h1 h0 h2 h3
    subst e1
    refine wp_eq (hx v h1) ⟨h1, h0, ?_, h3⟩
    exact mB_up h2 (by omega)
end ACC
theorem op_dot (I : Ims) (s u : St) (a0 a1 a2 : Int32) (h : Rl I s u) : Agr ["java/lang/IndexOutOfBoundsException", "java/lang/ArithmeticException"] (Rl I) (c_X3_dot s a0 a1 a2) (m_X4_dot u a0 a1 a2) := by
  obtain ⟨n, k, w, C, M, q, J, hW, hC, hM0, hI⟩ := h
  unfold c_X3_dot m_X4_dot
  have hM : RM n k w C M q J (sI u 0 0 0) := hM0.sI0 (Or.inl rfl)
  have ht : (sI u 0 0 0).1 0 0 = 0 := sIs
  generalize sI u 0 0 0 = u0 at hM ht ⊢
  simp only [needMask_eq, needWord_eq, needImage_eq, needColumn_eq hC hW, needRow_eq hC hW, needWidth_eq, xB_gX, isMask_eq, isWord_eq, isColumn_eq hM hW, isRow_eq hM hW, areIn_eq hM hW, isIn_eq, rg_if, needArgument_eq, needState_eq, Option.bind_some, if_bI, fails_eq, t64, I_m192, I_m62, I_m9, I_0, I_1, I_2, I_3, I_5, I_9, I_16, I_62, I_63, I_64, I_192, I_1000, L_m192, L_m62, L_m9, L_0, L_1, L_2, L_3, L_5, L_9, L_16, L_62, L_63, L_64, L_192, L_1000]
  by_cases h1 : inB a0 k = true
  case neg =>
    rw [Bool.not_eq_true] at h1
    simp only [h1, Bool.false_and, Bool.and_false, Bool.and_self, Bool.true_and, Bool.and_true, Bool.false_eq_true, eq_self, if_true, if_false, reduceIte, ite_self]
    exact Agr.err hW hI 0 rfl rfl rfl sIs hC (hM.sI0 (Or.inl rfl))
  by_cases h2 : inB a1 k = true
  case neg =>
    rw [Bool.not_eq_true] at h2
    simp only [h1, h2, Bool.false_and, Bool.and_false, Bool.and_self, Bool.true_and, Bool.and_true, Bool.false_eq_true, eq_self, if_true, if_false, reduceIte, ite_self]
    exact Agr.err hW hI 0 rfl rfl rfl sIs hC (hM.sI0 (Or.inl rfl))
  by_cases h3 : inB a2 8 = true
  case neg =>
    rw [Bool.not_eq_true] at h3
    simp only [h1, h2, h3, Bool.false_and, Bool.and_false, Bool.and_self, Bool.true_and, Bool.and_true, Bool.false_eq_true, eq_self, if_true, if_false, reduceIte, ite_self]
    exact Agr.err hW hI 0 rfl rfl rfl sIs hC (hM.sI0 (Or.inl rfl))
  simp only [h1, h2, h3, Bool.false_and, Bool.and_false, Bool.and_self, Bool.true_and, Bool.and_true, Bool.false_eq_true, eq_self, if_true, if_false, reduceIte, ite_self]
  obtain ⟨c, hc, rfl⟩ := inB_ex hW.k31 h1
  obtain ⟨d, hd, rfl⟩ := inB_ex hW.k31 h2
  obtain ⟨m, hm, rfl⟩ := inB_ex (by decide) h3
  have hn := hW.hn
  have hc6 := hW.c6 hc
  have hd6 := hW.c6 hd
  rw [wRestart_eq, Option.bind_some]
  have hcs : wp _ _ := cacc_wp (e := n) hC hn (fun i => C d i != ((-9223372036854775808) : Int64) && (C c i != ((-9223372036854775808) : Int64) && M m i)) (fun i => (C c i).toInt * (C d i).toInt) (fun i τ => c_X2_includeProduct τ (C c i) (C d i)) (fun i τ z B hi p hB hw => by
      have p := Bool.and_eq_true_iff.mp p
      exact wPrd62 hw (by omega) (cell_in hW hc hi (nbN (Bool.and_eq_true_iff.mp p.2).1)) (cell_in hW hd hi (nbN p.1))) (f := fun (s15 : Int32 × St) => (if s15.2.1 1 0 ≤ s15.1 then some (.inr s15.2) else ((c_X1_areBothNumbered s15.2 (nI c) (nI d) s15.1 (nI m)).bind fun v23 => ((if v23 = 0 then some s15.2 else ((ix (nI c) 6).bind fun j29 => ((ix s15.1 192).bind fun j31 => ((ix (nI d) 6).bind fun j33 => ((ix s15.1 192).bind fun j35 => ((c_X2_includeProduct s15.2 (s15.2.2 (4 + j29) j31) (s15.2.2 (4 + j33) j35)).bind fun v37 => some v37)))))).bind fun (t25 : St) => some (.inl ((s15.1 + 1), t25)))))) (fun i τ hi hC' => by
      simp only [hC'.rows, if_neg (ltL n hW.n31 hi), areBoth_eq hC' hW hc hd hi hm, Option.bind_some, if_bI]
      by_cases p : (C d i != ((-9223372036854775808) : Int64) && (C c i != ((-9223372036854775808) : Int64) && M m i)) = true
      · rw [if_pos p, if_pos p, ix6 hc6, Option.bind_some, ix192 (hW.r192 hi), Option.bind_some, ix6 hd6, Option.bind_some, Option.bind_some, hC'.cell hc hi, hC'.cell hd hi, nI_s i]
        cases c_X2_includeProduct τ (C c i) (C d i) <;> rfl
      · rw [if_neg p, if_neg p, Option.bind_some, nI_s i]) (fun τ hC' => by
      simp only [hC'.rows]
      exact if_pos (geL n hW.n31))
  obtain ⟨τ, eτ, hτ⟩ := hcs
  rw [eτ, Option.bind_some]
  obtain ⟨u1, eu1, ho1, hB1, hz1⟩ := noSum_wp u0
  rw [eu1, Option.bind_some]
  have hM1 := hM.oc (i := 7) (by decide) ho1
  have ht1 : u1.1 0 0 = 0 := by rw [(ho1 0 (by decide)).1]; exact ht
  have hms : wp _ _ := macc_wp (e := n) hM1 ht1 hB1 hz1 hn (fun i => C d i != ((-9223372036854775808) : Int64) && (C c i != ((-9223372036854775808) : Int64) && M m i)) (fun i => (C c i).toInt * (C d i).toInt) (fun i v => m_X4_adds v (C c i) (C d i)) (fun i v K hi p hK hB => by
      have p := Bool.and_eq_true_iff.mp p
      have b1 := cell_in hW hc hi (nbN (Bool.and_eq_true_iff.mp p.2).1)
      have b2 := cell_in hW hd hi (nbN p.1)
      exact adds_wp hB hK (C c i) (C d i) (by omega) (by omega)) (f := fun (s11 : Int32 × St) => (if s11.2.1 0 5 ≤ s11.1 then some (.inr s11.2) else ((m_X4_hasUnder s11.2 (nI c) s11.1 (nI m)).bind fun v19 => ((if v19 = 0 then some s11.2 else ((m_X4_at s11.2 (nI d) s11.1).bind fun v25 => ((ix v25 1152).bind fun j27 => (if s11.2.1 2 j27 = 0 then some s11.2 else ((m_X4_at s11.2 (nI c) s11.1).bind fun v30 => ((ix v30 1152).bind fun j32 => ((m_X4_at s11.2 (nI d) s11.1).bind fun v34 => ((ix v34 1152).bind fun j36 => ((m_X4_adds s11.2 (s11.2.2 1 j32) (s11.2.2 1 j36)).bind fun v38 => some v38))))))))).bind fun (t21 : St) => some (.inl ((s11.1 + 1), t21)))))) (fun i v hi hM' => by
      have hi2 := hW.r192 hi
      simp only [hM'.rows, if_neg (ltL n hW.n31 hi), hasUnder_eq hM' hW hc hi2 hm, Option.bind_some, if_bI]
      by_cases p : (C c i != ((-9223372036854775808) : Int64) && M m i) = true
      · rw [if_pos p, at_eq, Option.bind_some, ixA hd6 hi2, Option.bind_some, hM'.has' hW hd hi, if_bI]
        by_cases p2 : (C d i != ((-9223372036854775808) : Int64)) = true
        · rw [if_pos p2, at_eq, Option.bind_some, ixA hc6 hi2, Option.bind_some, Option.bind_some, ixA hd6 hi2, Option.bind_some, hM'.cell hc hi (nbN (Bool.and_eq_true_iff.mp p).1), hM'.cell hd hi (nbN p2), nI_s i, if_pos (show (C d i != ((-9223372036854775808) : Int64) && (C c i != ((-9223372036854775808) : Int64) && M m i)) = true by rw [p, p2]; rfl)]
          cases m_X4_adds v (C c i) (C d i) <;> rfl
        · rw [if_neg p2, Option.bind_some, nI_s i, if_neg (fun z => p2 (Bool.and_eq_true_iff.mp z).1)]
      · rw [if_neg p, Option.bind_some, nI_s i, if_neg (fun z => p (Bool.and_eq_true_iff.mp z).2)]) (fun v hM' => by
      simp only [hM'.rows]
      exact if_pos (geL n hW.n31))
  obtain ⟨v, ev, hv⟩ := hms
  rw [ev, Option.bind_some]
  exact sum_end hW hI hτ.1 hτ.2 hv.1 hv.2.1 hv.2.2.1 hv.2.2.2 (by decide) (by decide) 1 rfl
