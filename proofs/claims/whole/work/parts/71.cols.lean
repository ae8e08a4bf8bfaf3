/-! ===== column, rows, swap, drop, mask ===== -/
theorem emptyCells_eq (σ : St) {c a b : Nat} (hc : c < 6) (hab : a ≤ b) (hb : b ≤ 192) : c_X1_emptyCells σ (nI c) (nI a) (nI b) = some (fL σ (4 + c) a (fun _ => ((-9223372036854775808) : Int64)) (b - a)) := by
  unfold c_X1_emptyCells
  rw [lp_gm (fun i => (nI i, fL σ (4 + c) a (fun _ => ((-9223372036854775808) : Int64)) (i - a))) a b (fL σ (4 + c) a (fun _ => ((-9223372036854775808) : Int64)) (b - a)) ?_ hab (by omega) ?_ ?_]
  · rfl
  · rw [Nat.sub_self, fL_0]
  · intro i h1 h2
    simp only [if_neg (ltL b (by omega) h2), ix6 hc, ix192 (show i < 192 by omega), Option.bind_some, nI_s]
    have := fL_s σ (4 + c) a (fun _ => ((-9223372036854775808) : Int64)) (i - a)
    rw [show a + (i - a) = i by omega, show i - a + 1 = i + 1 - a by omega] at this
    rw [this]
  · exact if_pos (geL b (by omega))
def colN (C : Nat → Nat → Int64) (k a b : Nat) : Int64 := if a = k then ((-9223372036854775808) : Int64) else C a b
def rowN (C : Nat → Nat → Int64) (n c r : Nat) : Int64 := if r < n then C c r else ((-9223372036854775808) : Int64)
theorem colN_s (C : Nat → Nat → Int64) (k b : Nat) : colN C k k b = ((-9223372036854775808) : Int64) := if_pos rfl
theorem colN_n (C : Nat → Nat → Int64) {k a : Nat} (b : Nat) (h : ¬ a = k) : colN C k a b = C a b := if_neg h
theorem rowN_i (C : Nat → Nat → Int64) {n r : Nat} (c : Nat) (h : r < n) : rowN C n c r = C c r := if_pos h
theorem rowN_o (C : Nat → Nat → Int64) {n r : Nat} (c : Nat) (h : ¬ r < n) : rowN C n c r = ((-9223372036854775808) : Int64) := if_neg h
theorem op_column (I : Ims) (s u : St) (a0 : Int32) (h : Rl I s u) : Agr ["java/lang/IllegalArgumentException", "java/lang/IllegalStateException"] (Rl I) (c_X3_column s a0) (m_X4_column u a0) := by
  obtain ⟨n, k, w, C, M, q, J, hW, hC, hM0, hI⟩ := h
  unfold c_X3_column m_X4_column
  have hM : RM n k w C M q J (sI u 0 0 0) := hM0.sI0 (Or.inl rfl)
  have ht : (sI u 0 0 0).1 0 0 = 0 := sIs
  generalize sI u 0 0 0 = u0 at hM ht ⊢
  simp only [needMask_eq, needWord_eq, needImage_eq, needColumn_eq hC hW, needRow_eq hC hW, needWidth_eq, xB_gX, isMask_eq, isWord_eq, isColumn_eq hM hW, isRow_eq hM hW, areIn_eq hM hW, isIn_eq, rg_if, needArgument_eq, needState_eq, Option.bind_some, if_bI, fails_eq, t64, I_m192, I_m62, I_m9, I_0, I_1, I_2, I_3, I_5, I_9, I_16, I_62, I_63, I_64, I_192, I_1000, L_m192, L_m62, L_m9, L_0, L_1, L_2, L_3, L_5, L_9, L_16, L_62, L_63, L_64, L_192, L_1000]
  by_cases h1 : rg a0.toInt 2 63 = true
  case neg =>
    rw [Bool.not_eq_true] at h1
    simp only [h1, Bool.false_and, Bool.and_false, Bool.and_self, Bool.true_and, Bool.and_true, Bool.false_eq_true, eq_self, if_true, if_false, reduceIte, ite_self]
    exact Agr.err hW hI 0 rfl rfl rfl sIs hC (hM.sI0 (Or.inl rfl))
  simp only [h1, Bool.false_and, Bool.and_false, Bool.and_self, Bool.true_and, Bool.and_true, Bool.false_eq_true, eq_self, if_true, if_false, reduceIte, ite_self]
  obtain ⟨x, hx1, hx2, rfl⟩ := rg_nat (lo := 2) (hi := 63) h1
  have hk := hW.hk
  simp only [hC.cols, hM.cols, s01, Option.bind_some, needState_eq, xB_gX]
  by_cases hk6 : k = 6
  · subst hk6
    rw [show (!decide ((6 : Int32) ≤ nI 6)) = false by decide, if_pos (show nI 6 = (6 : Int32) from rfl)]
    simp only [Bool.false_and, Bool.and_false, Bool.and_self, Bool.true_and, Bool.and_true, Bool.false_eq_true, eq_self, if_true, if_false, reduceIte, ite_self]
    exact Agr.err hW hI 1 rfl rfl rfl sIs hC (hM.sI0 (Or.inl rfl))
  · have hlt : k < 6 := by omega
    rw [show (!decide ((6 : Int32) ≤ nI k)) = true by rw [decide_eq_false (show ¬ (6 : Int32) ≤ nI k from nI_ge (b := 6) hlt (by decide))]; rfl, if_neg (show ¬ nI k = (6 : Int32) from fun q => hk6 ((nI_eq (b := 6) (by omega) (by decide)).mp q))]
    simp only [Bool.false_and, Bool.and_false, Bool.and_self, Bool.true_and, Bool.and_true, Bool.false_eq_true, eq_self, if_true, if_false, reduceIte, ite_self, ix6 hlt, Option.bind_some, nI_s, emptyCells_eq _ hlt (Nat.zero_le 192) (Nat.le_refl 192)]
    rw [show c_X1_emptyCells (sI (sI s 1 1 (nI (k + 1))) 2 k (nI x)) (nI k) (0 : Int32) (192 : Int32) = _ from emptyCells_eq _ hlt (Nat.zero_le 192) (Nat.le_refl 192), Option.bind_some]
    have hW' : Wf n (k + 1) (upW w k x) (colN C k) M := by
      refine ⟨hW.1, by omega, fun a ha => ?_, fun a b ha hb => ?_, hW.2.2.2.2⟩
      · unfold upW
        by_cases e : a = k
        · rw [if_pos e]; omega
        · rw [if_neg e]; exact hW.hw (by omega)
      · unfold upW
        by_cases e : a = k
        · subst e; exact Or.inl (colN_s C a b)
        · rw [if_neg e, colN_n C b e]; exact hW.hf (by omega) hb
    refine Agr.bindM (P := fun u' => u' = fI (sI u0 3 k (nI x)) 2 (192 * k) (fun _ => bI false) 192) (wp_eq (lp_g (fun i => (nI i, fI (sI u0 3 k (nI x)) 2 (192 * k) (fun _ => bI false) i)) 192 _ ?_ (by decide) (fun i hi => ?_) (if_pos ge192)) rfl) (fun u' hu => ?_)
    · rw [fI_0]; rfl
    · have e1 : (fI (sI u0 3 k (nI x)) 2 (192 * k) (fun _ => bI false) i).1 0 6 = nI k := by
        rw [fI_ne (by decide)]; exact hM.cols
      simp only [if_neg (lt192 hi), e1, at_eq, ixA hlt hi, Option.bind_some, nz_0, nI_s, fI_s (sI u0 3 k (nI x)) 2 (192 * k) (fun _ => bI false) i]
    · subst hu
      have e1 : (fI (sI u0 3 k (nI x)) 2 (192 * k) (fun _ => bI false) 192).1 0 6 = nI k := by
        rw [fI_ne (by decide)]; exact hM.cols
      rw [e1, nI_s, sIs]
      refine Agr.ok (q := q) hW' hI rfl (by rw [nI_pred]) (by rw [sIn (by omega), fI_ne (by decide)]; exact ht) ?_ ?_
      · refine ⟨⟨by omega, hC.rows⟩, rfl, hC.kept, fun a ha => ?_, fun a b ha hb => ?_, fun a b ha hb => ?_⟩
        · show (sI (sI s 1 1 (nI (k + 1))) 2 k (nI x)).1 2 a = _
          unfold upW
          rw [sI1]
          by_cases e : a = k
          · rw [if_pos ⟨rfl, e⟩, if_pos e]
          · rw [if_neg (fun z => e z.2), if_neg e]; exact hC.wid (by omega)
        · by_cases e : a = k
          · subst e
            rw [colN_s, Nat.sub_zero, fL_in0 (hW.r192 hb)]
          · rw [colN_n C b e, fL_ne (by omega)]
            exact hC.cell (by omega) hb
        · rw [fL_ne (by omega)]; exact hC.bit ha hb
      · refine ⟨by rw [sIn (by omega), fI_ne (by decide)]; exact hM.rows, sIs, by rw [sIn (by omega), fI_ne (by decide)]; exact hM.kept, fun a ha => ?_, fun a b ha hb => ?_, fun a b ha hb hN => ?_, fun a b ha hb => ?_, fun i hi => ⟨?_, (hM.img hi).2⟩⟩
        · rw [sIn (by omega), fI_ne (by decide)]
          unfold upW
          rw [sI1]
          by_cases e : a = k
          · rw [if_pos ⟨rfl, e⟩, if_pos e]
          · rw [if_neg (fun z => e z.2), if_neg e]; exact hM.wid (by omega)
        · rw [sIn (by omega)]
          by_cases e : a = k
          · subst e
            rw [fI_in hb, colN_s, bne_self_eq_false, Bool.and_false]
          · rw [fI_out (by omega), colN_n C b e]
            exact hM.has (by omega) hb
        · by_cases e : a = k
          · subst e; exact absurd (colN_s C a b) hN
          · rw [colN_n C b e] at hN ⊢
            exact hM.cell (by omega) hb hN
        · rw [sIn (by omega), fI_ne (by decide)]
          exact hM.msk ha hb
        · rw [sI_ne (by omega), fI_ne (by omega), sI_ne (by omega)]
          exact (hM.img hi).1
theorem op_rows (I : Ims) (s u : St) (a0 : Int32) (h : Rl I s u) : Agr ["java/lang/IllegalArgumentException", "java/lang/IllegalStateException"] (Rl I) (c_X3_rows s a0) (m_X4_rows u a0) := by
  obtain ⟨n, k, w, C, M, q, J, hW, hC, hM0, hI⟩ := h
  unfold c_X3_rows m_X4_rows
  have hM : RM n k w C M q J (sI u 0 0 0) := hM0.sI0 (Or.inl rfl)
  have ht : (sI u 0 0 0).1 0 0 = 0 := sIs
  generalize sI u 0 0 0 = u0 at hM ht ⊢
  simp only [needMask_eq, needWord_eq, needImage_eq, needColumn_eq hC hW, needRow_eq hC hW, needWidth_eq, xB_gX, isMask_eq, isWord_eq, isColumn_eq hM hW, isRow_eq hM hW, areIn_eq hM hW, isIn_eq, rg_if, needArgument_eq, needState_eq, Option.bind_some, if_bI, fails_eq, t64, I_m192, I_m62, I_m9, I_0, I_1, I_2, I_3, I_5, I_9, I_16, I_62, I_63, I_64, I_192, I_1000, L_m192, L_m62, L_m9, L_0, L_1, L_2, L_3, L_5, L_9, L_16, L_62, L_63, L_64, L_192, L_1000]
  by_cases h1 : rg a0.toInt 1 64 = true
  case neg =>
    rw [Bool.not_eq_true] at h1
    simp only [h1, Bool.false_and, Bool.and_false, Bool.and_self, Bool.true_and, Bool.and_true, Bool.false_eq_true, eq_self, if_true, if_false, reduceIte, ite_self]
    exact Agr.err hW hI 0 rfl rfl rfl sIs hC (hM.sI0 (Or.inl rfl))
  simp only [h1, Bool.false_and, Bool.and_false, Bool.and_self, Bool.true_and, Bool.and_true, Bool.false_eq_true, eq_self, if_true, if_false, reduceIte, ite_self]
  obtain ⟨x, hx1, hx2, rfl⟩ := rg_nat (lo := 1) (hi := 64) h1
  have hn := hW.hn
  have hk := hW.hk
  simp only [hC.rows, hM.rows, nI_add, s01, Option.bind_some, needState_eq, xB_gX]
  by_cases hx : n + x ≤ 192
  case neg =>
    rw [show (!decide ((192 : Int32) < nI (n + x))) = false by rw [decide_eq_true (show (192 : Int32) < nI (n + x) from nI_lt (a := 192) (by omega) (by omega))]; rfl, if_neg (show ¬ nI (n + x) ≤ (192 : Int32) from nI_ge (a := 192) (by omega) (by omega))]
    simp only [Bool.false_and, Bool.and_false, Bool.and_self, Bool.true_and, Bool.and_true, Bool.false_eq_true, eq_self, if_true, if_false, reduceIte, ite_self]
    exact Agr.err hW hI 1 rfl rfl rfl sIs hC (hM.sI0 (Or.inl rfl))
  rw [show (!decide ((192 : Int32) < nI (n + x))) = true by rw [decide_eq_false (show ¬ (192 : Int32) < nI (n + x) from fun q => absurd ((nI_ltI (a := 192) (by decide) (by omega)).mp q) (by omega))]; rfl, if_pos (show nI (n + x) ≤ (192 : Int32) from nI_le (b := 192) hx (by decide))]
  simp only [Bool.false_and, Bool.and_false, Bool.and_self, Bool.true_and, Bool.and_true, Bool.false_eq_true, eq_self, if_true, if_false, reduceIte, ite_self]
  refine Agr.bindC (P := fun σ' => σ'.1 = s.1 ∧ (∀ i, i < 4 ∨ 10 ≤ i → σ'.2 i = s.2 i) ∧ ∀ c r, c < k → r < n + x → σ'.2 (4 + c) r = if r < n then C c r else ((-9223372036854775808) : Int64)) (wp_lp k (fun i (z : Int32 × St) => z.1 = nI i ∧ z.2.1 = s.1 ∧ (∀ j, j < 4 ∨ 10 ≤ j → z.2.2 j = s.2 j) ∧ (∀ c r, c < k → r < n → z.2.2 (4 + c) r = C c r) ∧ ∀ c r, c < i → n ≤ r → r < n + x → z.2.2 (4 + c) r = ((-9223372036854775808) : Int64)) (by omega) ⟨rfl, rfl, fun _ _ => rfl, fun c r hc hr => hC.cell hc hr, fun c r hc => absurd hc (by omega)⟩ (fun i z hi hJ => ?_) (fun z hJ => ?_)) (fun σ' hσ => ?_)
  · obtain ⟨z1, σ'⟩ := z
    obtain ⟨hz, g1, g2, g3, g4⟩ := hJ
    simp only at hz g1 g2 g3 g4
    subst hz
    simp only [g1, hC.cols, hC.rows, if_neg (ltL k hW.k31 hi), emptyCells_eq σ' (hW.c6 hi) (show n ≤ n + x by omega) hx, Option.bind_some, nI_s]
    refine wp_some ⟨rfl, g1, fun j hj => ?_, fun c r hc hr => ?_, fun c r hc h1 h2 => ?_⟩
    · show (fL σ' (4 + i) n (fun _ => ((-9223372036854775808) : Int64)) (n + x - n)).2 j = _
      rw [fL_ne (by omega)]; exact g2 j hj
    · show (fL σ' (4 + i) n (fun _ => ((-9223372036854775808) : Int64)) (n + x - n)).2 (4 + c) r = _
      rw [fL_out (by omega)]; exact g3 c r hc hr
    · show (fL σ' (4 + i) n (fun _ => ((-9223372036854775808) : Int64)) (n + x - n)).2 (4 + c) r = _
      by_cases e : c = i
      · subst e
        have := fL_in (σ := σ') (i := 4 + c) (o := n) (x := r - n) (n := n + x - n) (f := fun _ => ((-9223372036854775808) : Int64)) (by omega)
        rwa [show n + (r - n) = r by omega] at this
      · rw [fL_ne (by omega)]; exact g4 c r (by omega) h1 h2
  · obtain ⟨z1, σ'⟩ := z
    obtain ⟨hz, g1, g2, g3, g4⟩ := hJ
    simp only at hz g1 g2 g3 g4
    subst hz
    simp only [g1, hC.cols]
    refine wp_eq (if_pos (geL k hW.k31)) ⟨g1, g2, fun c r hc hr => ?_⟩
    by_cases e : r < n
    · rw [if_pos e]; exact g3 c r hc e
    · rw [if_neg e]; exact g4 c r hc (by omega) hr
  · obtain ⟨g1, g2, g3⟩ := hσ
    have hW' : Wf (n + x) k w (rowN C n) M := by
      refine ⟨hx, hW.2.1, hW.2.2.1, fun c r hc hr => ?_, fun m r hm hr => by have := hW.hm hm hr; omega⟩
      by_cases e : r < n
      · rw [rowN_i C c e]; exact hW.hf hc e
      · exact Or.inl (rowN_o C c e)
    refine Agr.ok (q := q) hW' hI rfl (by rw [sIs]) (by rw [sIn (by omega)]; exact ht) ?_ ?_
    · refine ⟨⟨hk, sIs⟩, by rw [sIn (by omega), g1]; exact hC.cols, by rw [sIn (by omega), g1]; exact hC.kept, fun c hc => by rw [sIn (by omega), g1]; exact hC.wid hc, fun c r hc hr => g3 c r hc hr, fun m r hm hr => ?_⟩
      show lb (σ'.2 (11 + m) (r / 64)) (r % 64) = _
      rw [g2 _ (by omega)]; exact hC.bit hm hr
    · refine ⟨sIs, by rw [sIn (by omega)]; exact hM.cols, by rw [sIn (by omega)]; exact hM.kept, fun c hc => hM.wid hc, fun c r hc hr => ?_, fun c r hc hr hN => ?_, fun m r hm hr => hM.msk hm hr, fun i hi => ⟨(sI_ne (by omega)).trans (hM.img hi).1, (hM.img hi).2⟩⟩
      · show u0.1 2 (192 * c + r) = _
        rw [hM.has hc hr]
        by_cases e : r < n
        · rw [rowN_i C c e, decide_eq_true e, decide_eq_true (show r < n + x by omega)]
        · rw [rowN_o C c e, decide_eq_false e, bne_self_eq_false, Bool.and_false, Bool.false_and]
      · by_cases e : r < n
        · rw [rowN_i C c e] at hN ⊢; exact hM.cell hc e hN
        · exact absurd (rowN_o C c e) hN
