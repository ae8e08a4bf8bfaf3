/-! ===== swap, drop ===== -/
def swN (f : Nat → Nat) (a b i : Nat) : Nat := if i = b then f a else if i = a then f b else f i
def swC (C : Nat → Nat → Int64) (a b i r : Nat) : Int64 := if i = b then C a r else if i = a then C b r else C i r
section SW
variable {n k : Nat} {w : Nat → Nat} {C : Nat → Nat → Int64} {M : Nat → Nat → Bool} {q : Int32} {σ τ u u' J : St} {a b : Nat}
theorem Wf.sw (h : Wf n k w C M) (ha : a < k) (hb : b < k) : Wf n k (swN w a b) (swC C a b) M := by
  refine ⟨h.1, h.2.1, fun c hc => ?_, fun c r hc hr => ?_, h.2.2.2.2⟩
  · unfold swN
    split
    · exact h.hw ha
    · split
      · exact h.hw hb
      · exact h.hw hc
  · unfold swN swC
    by_cases e1 : c = b
    · rw [if_pos e1, if_pos e1]; exact h.hf ha hr
    · rw [if_neg e1, if_neg e1]
      by_cases e2 : c = a
      · rw [if_pos e2, if_pos e2]; exact h.hf hb hr
      · rw [if_neg e2, if_neg e2]; exact h.hf hc hr
theorem exch_wp (h : RC n k w C M q σ) (hW : Wf n k w C M) (ha : a < k) (hb : b < k) : wp (c_X1_exchangeColumns σ (nI a) (nI b)) (fun τ => RC n k (swN w a b) (swC C a b) M q τ ∧ ∀ i, 10 ≤ i → τ.1 i = σ.1 i ∧ τ.2 i = σ.2 i) := by
  unfold c_X1_exchangeColumns
  have ha6 := hW.c6 ha
  have hb6 := hW.c6 hb
  have hk := hW.hk
  simp only [ix6 ha6, ix6 hb6, Option.bind_some, h.wid ha, h.wid hb]
  refine wp_bm (Q := fun τ => τ.1 = (sI (sI σ 2 a (nI (w b))) 2 b (nI (w a))).1 ∧ (∀ i, i < 4 ∨ 10 ≤ i → τ.2 i = σ.2 i) ∧ ∀ c r, c < k → r < n → τ.2 (4 + c) r = swC C a b c r) (wp_lp n (fun i (z : Int32 × St) => z.1 = nI i ∧ z.2.1 = (sI (sI σ 2 a (nI (w b))) 2 b (nI (w a))).1 ∧ (∀ j, j < 4 ∨ 10 ≤ j → z.2.2 j = σ.2 j) ∧ (∀ c r, c < k → i ≤ r → r < n → z.2.2 (4 + c) r = C c r) ∧ ∀ c r, c < k → r < i → z.2.2 (4 + c) r = swC C a b c r) hW.n5 ⟨rfl, rfl, fun _ _ => rfl, fun c r hc _ hr => h.cell hc hr, fun c r hc hr => absurd hr (by omega)⟩ (fun i z hi hJ => ?_) (fun z hJ => ?_)) (fun τ hτ => ?_)
  · obtain ⟨z1, τ⟩ := z
    obtain ⟨hz, g1, g2, g3, g4⟩ := hJ
    simp only at hz g1 g2 g3 g4
    subst hz
    have e0 : τ.1 1 0 = nI n := by rw [g1, sIn (by omega), sIn (by omega)]; exact h.rows
    simp only [e0, if_neg (ltL n hW.n31 hi), ix192 (hW.r192 hi), Option.bind_some, g3 a i ha (Nat.le_refl _) hi, g3 b i hb (Nat.le_refl _) hi, nI_s]
    refine wp_some ⟨rfl, g1, fun j hj => ?_, fun c r hc h1 h2 => ?_, fun c r hc hr => ?_⟩
    · show (sL (sL τ (4 + a) i (C b i)) (4 + b) i (C a i)).2 j = _
      rw [sL_ne (by omega), sL_ne (by omega)]; exact g2 j hj
    · show (sL (sL τ (4 + a) i (C b i)) (4 + b) i (C a i)).2 (4 + c) r = _
      rw [sLn (by omega), sLn (by omega)]; exact g3 c r hc (by omega) h2
    · show (sL (sL τ (4 + a) i (C b i)) (4 + b) i (C a i)).2 (4 + c) r = _
      by_cases e : r = i
      · subst e
        unfold swC
        rw [sL2, sL2]
        by_cases e1 : c = b
        · rw [if_pos (by omega), if_pos e1]
        · rw [if_neg (by omega), if_neg e1]
          by_cases e2 : c = a
          · rw [if_pos (by omega), if_pos e2]
          · rw [if_neg (by omega), if_neg e2]; exact g3 c r hc (Nat.le_refl _) hi
      · rw [sLn (by omega), sLn (by omega)]; exact g4 c r hc (by omega)
  · obtain ⟨z1, τ⟩ := z
    obtain ⟨hz, g1, g2, g3, g4⟩ := hJ
    simp only at hz g1 g2 g3 g4
    subst hz
    have e0 : τ.1 1 0 = nI n := by rw [g1, sIn (by omega), sIn (by omega)]; exact h.rows
    simp only [e0]
    exact wp_eq (if_pos (geL n hW.n31)) ⟨g1, g2, fun c r hc hr => g4 c r hc hr⟩
  · obtain ⟨g1, g2, g3⟩ := hτ
    refine wp_some ⟨⟨⟨hk, by rw [g1, sIn (by omega), sIn (by omega)]; exact h.rows⟩, by rw [g1, sIn (by omega), sIn (by omega)]; exact h.cols, by rw [g1, sIn (by omega), sIn (by omega)]; exact h.kept, fun c hc => ?_, g3, fun m r hm hr => by rw [g2 _ (by omega)]; exact h.bit hm hr⟩, fun i hi => ⟨by rw [g1, sI_ne (by omega), sI_ne (by omega)], g2 i (by omega)⟩⟩
    rw [g1]
    unfold swN
    rw [sI1, sI1]
    by_cases e1 : c = b
    · rw [if_pos ⟨rfl, e1⟩, if_pos e1]
    · rw [if_neg (fun z => e1 z.2), if_neg e1]
      by_cases e2 : c = a
      · rw [if_pos ⟨rfl, e2⟩, if_pos e2]
      · rw [if_neg (fun z => e2 z.2), if_neg e2]; exact h.wid hc
end SW
theorem at_ne {a b r i : Nat} (hr : r < 192) (hi : i < 192) : (192 * a + r = 192 * b + i) ↔ (a = b ∧ r = i) := by omega
theorem op_swap (I : Ims) (s u : St) (a0 a1 : Int32) (h : Rl I s u) : Agr ["java/lang/IndexOutOfBoundsException"] (Rl I) (c_X3_swap s a0 a1) (m_X4_swap u a0 a1) := by
  obtain ⟨n, k, w, C, M, q, J, hW, hC, hM0, hI⟩ := h
  unfold c_X3_swap m_X4_swap
  have hM : RM n k w C M q J (sI u 0 0 0) := hM0.sI0 (Or.inl rfl)
  have ht : (sI u 0 0 0).1 0 0 = 0 := sIs
  generalize sI u 0 0 0 = u0 at hM ht ⊢
  simp only [needMask_eq, needWord_eq, needImage_eq, needColumn_eq hC hW, needRow_eq hC hW, needWidth_eq, xB_gX, isMask_eq, isWord_eq, isColumn_eq hM hW, isRow_eq hM hW, areIn_eq hM hW, isIn_eq, rg_if, needArgument_eq, needState_eq, Option.bind_some, if_bI, fails_eq, t64, I_m192, I_m62, I_m9, I_0, I_1, I_2, I_3, I_5, I_9, I_16, I_62, I_63, I_64, I_192, I_1000, L_m192, L_m62, L_m9, L_0, L_1, L_2, L_3, L_5, L_9, L_16, L_62, L_63, L_64, L_192, L_1000]
  by_cases h1 : inB a0 k = true
  case neg =>
    rw [Bool.not_eq_true] at h1
    simp only [h1, Bool.false_and, Bool.and_false, Bool.and_self, Bool.true_and, Bool.and_true, Bool.false_eq_true, eq_self, if_true, if_false, reduceIte, ite_self]
    exact Agr.err hW hI 0 rfl rfl rfl sIs hC (hM.sI0 (Or.inl rfl))
  by_cases h2 : inB a1 k = true
  case neg =>
    rw [Bool.not_eq_true] at h2
    simp only [h1, h2, Bool.false_and, Bool.and_false, Bool.and_self, Bool.true_and, Bool.and_true, Bool.false_eq_true, eq_self, if_true, if_false, reduceIte, ite_self]
    exact Agr.err hW hI 0 rfl rfl rfl sIs hC (hM.sI0 (Or.inl rfl))
  simp only [h1, h2, Bool.false_and, Bool.and_false, Bool.and_self, Bool.true_and, Bool.and_true, Bool.false_eq_true, eq_self, if_true, if_false, reduceIte, ite_self]
  obtain ⟨a, ha, rfl⟩ := inB_ex hW.k31 h1
  obtain ⟨b, hb, rfl⟩ := inB_ex hW.k31 h2
  have ha6 := hW.c6 ha
  have hb6 := hW.c6 hb
  refine Agr.bindC (exch_wp hC hW ha hb) (fun τ hτ => ?_)
  simp only [ix6 ha6, ix6 hb6, Option.bind_some, hτ.1.wid ha, hM.wid ha, hM.wid hb]
  refine Agr.bindM (P := fun u' => u'.1 0 0 = 0 ∧ RM n k (swN w a b) (swC C a b) M q J u') ?_ (fun u' hu => ?_)
  · let B : St := sI (sI u0 3 a (nI (w b))) 3 b (nI (w a))
    refine wp_lp 192 (fun i (z : Int32 × St) => z.1 = nI i ∧ (∀ j, j ≠ 2 → z.2.1 j = B.1 j) ∧ (∀ j, j ≠ 1 → z.2.2 j = u0.2 j) ∧ (∀ c r, c < k → r < 192 → z.2.1 2 (192 * c + r) = bI (decide (r < n) && (if r < i then swC C a b c r else C c r) != ((-9223372036854775808) : Int64))) ∧ ∀ c r, c < k → r < n → (if r < i then swC C a b c r else C c r) ≠ ((-9223372036854775808) : Int64) → z.2.2 1 (192 * c + r) = if r < i then swC C a b c r else C c r) (by decide) ⟨rfl, fun _ _ => rfl, fun _ _ => rfl, fun c r hc hr => ?_, fun c r hc hr hN => ?_⟩ (fun i z hi hJ => ?_) (fun z hJ => ?_)
    · rw [if_neg (by omega)]; exact hM.has hc hr
    · rw [if_neg (by omega)] at hN ⊢; exact hM.cell hc hr hN
    · obtain ⟨z1, u'⟩ := z
      obtain ⟨hz, g1, g2, g3, g4⟩ := hJ
      simp only at hz g1 g2 g3 g4
      subst hz
      have na := g3 a i ha hi
      have nb := g3 b i hb hi
      rw [if_neg (Nat.lt_irrefl i)] at na nb
      simp only [if_neg (lt192 hi), at_eq, ixA ha6 hi, ixA hb6 hi, Option.bind_some, nI_s, sL1, na, nb, nz_bI]
      refine wp_some ⟨rfl, fun j hj => ?_, fun j hj => ?_, fun c r hc hr => ?_, fun c r hc hr hN => ?_⟩
      · exact (sI_ne hj).trans ((sI_ne hj).trans (g1 j hj))
      · show (sL (sL u' 1 _ _) 1 _ _).2 j = _
        rw [sL_ne hj, sL_ne hj]; exact g2 j hj
      · show (sI (sI (sL (sL u' 1 _ _) 1 _ _) 2 (192 * a + i) (bI (decide (i < n) && C b i != ((-9223372036854775808) : Int64)))) 2 (192 * b + i) (bI (decide (i < n) && C a i != ((-9223372036854775808) : Int64)))).1 2 (192 * c + r) = _
        rw [sI1, sI1]
        by_cases e : r = i
        · subst e
          rw [if_pos (Nat.lt_succ_self r)]
          unfold swC
          by_cases e1 : c = b
          · rw [if_pos (by omega), if_pos e1]
          · rw [if_neg (by omega), if_neg e1]
            by_cases e2 : c = a
            · rw [if_pos (by omega), if_pos e2]
            · rw [if_neg (by omega), if_neg e2]
              have := g3 c r hc hr
              rwa [if_neg (Nat.lt_irrefl r)] at this
        · rw [if_neg (by omega), if_neg (by omega)]
          show u'.1 2 (192 * c + r) = _
          rw [g3 c r hc hr]
          by_cases e3 : r < i
          · rw [if_pos e3, if_pos (by omega)]
          · rw [if_neg e3, if_neg (by omega)]
      · have hr2 := hW.r192 hr
        show (sL (sL u' 1 (192 * a + i) (u'.2 1 (192 * b + i))) 1 (192 * b + i) (u'.2 1 (192 * a + i))).2 1 (192 * c + r) = _
        rw [sL2, sL2]
        by_cases e : r = i
        · subst e
          rw [if_pos (Nat.lt_succ_self r)] at hN ⊢
          unfold swC at hN ⊢
          have g5 : ∀ c, c < k → C c r ≠ ((-9223372036854775808) : Int64) → u'.2 1 (192 * c + r) = C c r := fun c hc hN => by
            have := g4 c r hc hr
            rw [if_neg (Nat.lt_irrefl r)] at this
            exact this hN
          by_cases e1 : c = b
          · rw [if_pos (by omega), if_pos e1]
            rw [if_pos e1] at hN
            exact g5 a ha hN
          · rw [if_neg (by omega), if_neg e1]
            rw [if_neg e1] at hN
            by_cases e2 : c = a
            · rw [if_pos (by omega), if_pos e2]
              rw [if_pos e2] at hN
              exact g5 b hb hN
            · rw [if_neg (by omega), if_neg e2]
              rw [if_neg e2] at hN
              exact g5 c hc hN
        · rw [if_neg (by omega), if_neg (by omega)]
          by_cases e3 : r < i
          · rw [if_pos (by omega)] at hN ⊢
            have := g4 c r hc hr
            rw [if_pos e3] at this
            exact this hN
          · rw [if_neg (by omega)] at hN ⊢
            have := g4 c r hc hr
            rw [if_neg e3] at this
            exact this hN
    · obtain ⟨z1, u'⟩ := z
      obtain ⟨hz, g1, g2, g3, g4⟩ := hJ
      simp only at hz g1 g2 g3 g4
      subst hz
      have hn := hW.hn
      refine wp_eq (if_pos ge192) ⟨?_, ?_, ?_, ?_, fun c hc => ?_, fun c r hc hr => ?_, fun c r hc hr hN => ?_, fun m r hm hr => ?_, fun i hi => ⟨?_, ?_⟩⟩
      · rw [g1 0 (by decide)]; exact ht
      · rw [g1 0 (by decide)]; exact hM.rows
      · rw [g1 0 (by decide)]; exact hM.cols
      · rw [g1 0 (by decide)]; exact hM.kept
      · rw [g1 3 (by decide)]
        show (sI (sI u0 3 a (nI (w b))) 3 b (nI (w a))).1 3 c = _
        unfold swN
        rw [sI1, sI1]
        by_cases e1 : c = b
        · rw [if_pos ⟨rfl, e1⟩, if_pos e1]
        · rw [if_neg (fun z => e1 z.2), if_neg e1]
          by_cases e2 : c = a
          · rw [if_pos ⟨rfl, e2⟩, if_pos e2]
          · rw [if_neg (fun z => e2 z.2), if_neg e2]; exact hM.wid hc
      · rw [g3 c r hc hr, if_pos hr]
      · have := g4 c r hc hr
        rw [if_pos (by omega)] at this
        exact this hN
      · rw [g1 4 (by decide)]; exact hM.msk hm hr
      · rw [g1 i (by omega)]
        show (sI (sI u0 3 a (nI (w b))) 3 b (nI (w a))).1 i = _
        rw [sI_ne (by omega), sI_ne (by omega)]
        exact (hM.img hi).1
      · rw [g2 i (by omega)]; exact (hM.img hi).2
  · rw [hu.2.wid ha]
    exact Agr.ok (hW.sw ha hb) hI rfl rfl hu.1 hτ.1 hu.2
