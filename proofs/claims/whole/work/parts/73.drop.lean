/-! ===== drop ===== -/
def rotN (f : Nat → Nat) (a i j : Nat) : Nat := if j < a then f j else if j < i then f (j + 1) else if j = i then f a else f j
def rotC (C : Nat → Nat → Int64) (a i j r : Nat) : Int64 := if j < a then C j r else if j < i then C (j + 1) r else if j = i then C a r else C j r
theorem rotN_0 (f : Nat → Nat) (a : Nat) : rotN f a a = f := by
  funext j
  unfold rotN
  by_cases h1 : j < a
  · rw [if_pos h1]
  · rw [if_neg h1]
    by_cases h2 : j = a
    · rw [if_neg h1, if_pos h2, h2]
    · rw [if_neg h1, if_neg h2]
theorem rotC_0 (C : Nat → Nat → Int64) (a : Nat) : rotC C a a = C := by
  funext j r
  unfold rotC
  by_cases h1 : j < a
  · rw [if_pos h1]
  · rw [if_neg h1]
    by_cases h2 : j = a
    · rw [if_neg h1, if_pos h2, h2]
    · rw [if_neg h1, if_neg h2]
theorem rotN_s (f : Nat → Nat) {a i : Nat} (h : a ≤ i) : swN (rotN f a i) i (i + 1) = rotN f a (i + 1) := by
  funext j
  unfold swN rotN
  by_cases e1 : j = i + 1
  · subst e1
    rw [if_pos rfl, if_neg (by omega), if_neg (by omega), if_pos rfl, if_neg (by omega), if_neg (by omega), if_pos rfl]
  · rw [if_neg e1]
    by_cases e2 : j = i
    · subst e2
      rw [if_pos rfl, if_neg (by omega), if_neg (by omega), if_neg (by omega), if_neg (by omega), if_pos (by omega)]
    · rw [if_neg e2]
      by_cases e3 : j < a
      · rw [if_pos e3, if_pos e3]
      · rw [if_neg e3, if_neg e3]
        by_cases e4 : j < i
        · rw [if_pos e4, if_pos (by omega)]
        · rw [if_neg e4, if_neg e2, if_neg (by omega), if_neg e1]
theorem rotC_s (C : Nat → Nat → Int64) {a i : Nat} (h : a ≤ i) : swC (rotC C a i) i (i + 1) = rotC C a (i + 1) := by
  funext j r
  unfold swC rotC
  by_cases e1 : j = i + 1
  · subst e1
    rw [if_pos rfl, if_neg (by omega), if_neg (by omega), if_pos rfl, if_neg (by omega), if_neg (by omega), if_pos rfl]
  · rw [if_neg e1]
    by_cases e2 : j = i
    · subst e2
      rw [if_pos rfl, if_neg (by omega), if_neg (by omega), if_neg (by omega), if_neg (by omega), if_pos (by omega)]
    · rw [if_neg e2]
      by_cases e3 : j < a
      · rw [if_pos e3, if_pos e3]
      · rw [if_neg e3, if_neg e3]
        by_cases e4 : j < i
        · rw [if_pos e4, if_pos (by omega)]
        · rw [if_neg e4, if_neg e2, if_neg (by omega), if_neg e1]
/-- the reference's columns a .. i are those behind them -/
def shN (f : Nat → Nat) (a i j : Nat) : Nat := if a ≤ j ∧ j < i then f (j + 1) else f j
def shC (C : Nat → Nat → Int64) (a i j r : Nat) : Int64 := if a ≤ j ∧ j < i then C (j + 1) r else C j r
theorem op_drop (I : Ims) (s u : St) (a0 : Int32) (h : Rl I s u) : Agr ["java/lang/IndexOutOfBoundsException"] (Rl I) (c_X3_drop s a0) (m_X4_drop u a0) := by
  obtain ⟨n, k, w, C, M, q, J, hW, hC, hM0, hI⟩ := h
  unfold c_X3_drop m_X4_drop
  have hM : RM n k w C M q J (sI u 0 0 0) := hM0.sI0 (Or.inl rfl)
  have ht : (sI u 0 0 0).1 0 0 = 0 := sIs
  generalize sI u 0 0 0 = u0 at hM ht ⊢
  simp only [needMask_eq, needWord_eq, needImage_eq, needColumn_eq hC hW, needRow_eq hC hW, needWidth_eq, xB_gX, isMask_eq, isWord_eq, isColumn_eq hM hW, isRow_eq hM hW, areIn_eq hM hW, isIn_eq, rg_if, needArgument_eq, needState_eq, Option.bind_some, if_bI, fails_eq, t64, I_m192, I_m62, I_m9, I_0, I_1, I_2, I_3, I_5, I_9, I_16, I_62, I_63, I_64, I_192, I_1000, L_m192, L_m62, L_m9, L_0, L_1, L_2, L_3, L_5, L_9, L_16, L_62, L_63, L_64, L_192, L_1000]
  by_cases h1 : inB a0 k = true
  case neg =>
    rw [Bool.not_eq_true] at h1
    simp only [h1, Bool.false_and, Bool.and_false, Bool.and_self, Bool.true_and, Bool.and_true, Bool.false_eq_true, eq_self, if_true, if_false, reduceIte, ite_self]
    exact Agr.err hW hI 0 rfl rfl rfl sIs hC (hM.sI0 (Or.inl rfl))
  simp only [h1, Bool.false_and, Bool.and_false, Bool.and_self, Bool.true_and, Bool.and_true, Bool.false_eq_true, eq_self, if_true, if_false, reduceIte, ite_self]
  obtain ⟨a, ha, rfl⟩ := inB_ex hW.k31 h1
  have hk := hW.hk
  have hn := hW.hn
  refine Agr.bindC (P := fun σ' => Wf n k (rotN w a (k - 1)) (rotC C a (k - 1)) M ∧ RC n k (rotN w a (k - 1)) (rotC C a (k - 1)) M q σ') (wp_lpm a (k - 1) (fun i (z : Int32 × St) => z.1 = nI i ∧ Wf n k (rotN w a i) (rotC C a i) M ∧ RC n k (rotN w a i) (rotC C a i) M q z.2) (by omega) (by omega) ⟨rfl, by rw [rotN_0, rotC_0]; exact hW, by rw [rotN_0, rotC_0]; exact hC⟩ (fun i z h1 h2 hJ => ?_) (fun z hJ => ?_)) (fun σ' hσ => ?_)
  · obtain ⟨z1, σ'⟩ := z
    obtain ⟨hz, hW', hC'⟩ := hJ
    simp only at hz hC'
    subst hz
    simp only [hC'.cols, nI_s, if_neg (ltL (i := i + 1) k hW.k31 (by omega))]
    refine wp_bm (exch_wp hC' hW' (show i < k by omega) (show i + 1 < k by omega)) (fun τ hτ => wp_some ⟨rfl, ?_, ?_⟩)
    · rw [← rotN_s w h1, ← rotC_s C h1]
      exact hW'.sw (by omega) (by omega)
    · rw [← rotN_s w h1, ← rotC_s C h1]
      exact hτ.1
  · obtain ⟨z1, σ'⟩ := z
    obtain ⟨hz, hW', hC'⟩ := hJ
    simp only at hz hC'
    subst hz
    simp only [hC'.cols, nI_s]
    exact wp_eq (if_pos (show nI k ≤ nI (k - 1 + 1) from nI_le (by omega) (by omega))) ⟨hW', hC'⟩
  obtain ⟨hW', hC'⟩ := hσ
  have ek : nI k - (1 : Int32) = nI (k - 1) := pk_sub (b := 1) (by omega)
  rw [hC'.cols, ek, sIs, hM.cols, ek]
  -- the reference
  refine Agr.bindM (P := fun u' => u'.1 0 0 = 0 ∧ u'.1 0 6 = nI (k - 1) ∧ u'.1 0 5 = nI n ∧ u'.1 0 7 = q ∧ (∀ j, 4 ≤ j → u'.1 j = u0.1 j ∧ u'.2 j = u0.2 j) ∧ (∀ c, c < k → u'.1 3 c = nI (shN w a (k - 1) c)) ∧ (∀ c r, c < k → r < 192 → u'.1 2 (192 * c + r) = bI (decide (r < n) && shC C a (k - 1) c r != ((-9223372036854775808) : Int64))) ∧ ∀ c r, c < k → r < n → shC C a (k - 1) c r ≠ ((-9223372036854775808) : Int64) → u'.2 1 (192 * c + r) = shC C a (k - 1) c r) (wp_lpm a (k - 1) (fun i (z : Int32 × St) => z.1 = nI i ∧ z.2.1 0 0 = 0 ∧ z.2.1 0 6 = nI (k - 1) ∧ z.2.1 0 5 = nI n ∧ z.2.1 0 7 = q ∧ (∀ j, 4 ≤ j → z.2.1 j = u0.1 j ∧ z.2.2 j = u0.2 j) ∧ (∀ c, c < k → z.2.1 3 c = nI (shN w a i c)) ∧ (∀ c r, c < k → r < 192 → z.2.1 2 (192 * c + r) = bI (decide (r < n) && shC C a i c r != ((-9223372036854775808) : Int64))) ∧ ∀ c r, c < k → r < n → shC C a i c r ≠ ((-9223372036854775808) : Int64) → z.2.2 1 (192 * c + r) = shC C a i c r) (by omega) (by omega) ⟨rfl, by rw [sIn (by omega)]; exact ht, sIs, by rw [sIn (by omega)]; exact hM.rows, by rw [sIn (by omega)]; exact hM.kept, fun j hj => ⟨sI_ne (by omega), rfl⟩, fun c hc => ?_, fun c r hc hr => ?_, fun c r hc hr hN => ?_⟩ (fun i z h1 h2 hJ => ?_) (fun z hJ => ?_)) (fun u' hu => ?_)
  · unfold shN; rw [if_neg (by omega)]; exact hM.wid hc
  · unfold shC; rw [if_neg (by omega)]; exact hM.has hc hr
  · unfold shC at hN ⊢; rw [if_neg (by omega)] at hN ⊢; exact hM.cell hc hr hN
  · obtain ⟨z1, u'⟩ := z
    obtain ⟨hz, g1, g2, g3, g4, g5, g6, g7, g8⟩ := hJ
    simp only at hz g1 g2 g3 g4 g5 g6 g7 g8
    subst hz
    have i6 : i < 6 := by omega
    have i16 : i + 1 < 6 := by omega
    simp only [g2, if_neg (ltL (i := i) (k - 1) (by omega) h2), nI_s, ix6 i6, ix6 i16, Option.bind_some, g6 (i + 1) (by omega)]
    refine wp_bm (Q := fun v => (∀ j, j ≠ 2 → v.1 j = (sI u' 3 i (nI (shN w a i (i + 1)))).1 j) ∧ (∀ j, j ≠ 1 → v.2 j = u'.2 j) ∧ (∀ c r, c < k → r < 192 → v.1 2 (192 * c + r) = if c = i then u'.1 2 (192 * (i + 1) + r) else u'.1 2 (192 * c + r)) ∧ ∀ c r, c < k → r < 192 → v.2 1 (192 * c + r) = if c = i then u'.2 1 (192 * (i + 1) + r) else u'.2 1 (192 * c + r)) (wp_lp 192 (fun x (z : Int32 × St) => z.1 = nI x ∧ (∀ j, j ≠ 2 → z.2.1 j = (sI u' 3 i (nI (shN w a i (i + 1)))).1 j) ∧ (∀ j, j ≠ 1 → z.2.2 j = u'.2 j) ∧ (∀ c r, c < k → r < 192 → z.2.1 2 (192 * c + r) = if c = i ∧ r < x then u'.1 2 (192 * (i + 1) + r) else u'.1 2 (192 * c + r)) ∧ ∀ c r, c < k → r < 192 → z.2.2 1 (192 * c + r) = if c = i ∧ r < x then u'.2 1 (192 * (i + 1) + r) else u'.2 1 (192 * c + r)) (by decide) ⟨rfl, fun _ _ => rfl, fun _ _ => rfl, fun c r hc hr => by rw [if_neg (by omega)]; exact sIn (by omega), fun c r hc hr => by rw [if_neg (by omega)]; rfl⟩ (fun x z hx hJ => ?_) (fun z hJ => ?_)) (fun v hv => ?_)
    · obtain ⟨z1, v⟩ := z
      obtain ⟨hz, f1, f2, f3, f4⟩ := hJ
      simp only at hz f1 f2 f3 f4
      subst hz
      have e7 : v.1 2 (192 * (i + 1) + x) = bI (decide (x < n) && shC C a i (i + 1) x != ((-9223372036854775808) : Int64)) := by
        rw [f3 (i + 1) x (by omega) hx, if_neg (by omega)]; exact g7 (i + 1) x (by omega) hx
      have e8 : v.2 1 (192 * (i + 1) + x) = u'.2 1 (192 * (i + 1) + x) := by
        rw [f4 (i + 1) x (by omega) hx, if_neg (by omega)]
      simp only [if_neg (lt192 hx), at_eq, ixA i6 hx, ixA i16 hx, Option.bind_some, nI_s, sL1, e7, e8, nz_bI]
      refine wp_some ⟨rfl, fun j hj => ?_, fun j hj => ?_, fun c r hc hr => ?_, fun c r hc hr => ?_⟩
      · exact (sI_ne hj).trans (f1 j hj)
      · show (sL v 1 _ _).2 j = _
        rw [sL_ne hj]; exact f2 j hj
      · show (sI (sL v 1 _ _) 2 (192 * i + x) (bI (decide (x < n) && shC C a i (i + 1) x != ((-9223372036854775808) : Int64)))).1 2 (192 * c + r) = _
        rw [sI1]
        by_cases e : c = i ∧ r = x
        · obtain ⟨rfl, rfl⟩ := e
          rw [if_pos ⟨rfl, rfl⟩, if_pos ⟨rfl, Nat.lt_succ_self r⟩]
          exact (g7 (c + 1) r (by omega) hx).symm
        · rw [if_neg (by omega)]
          show v.1 2 (192 * c + r) = _
          rw [f3 c r hc hr]
          by_cases e2 : c = i ∧ r < x
          · rw [if_pos e2, if_pos (by omega)]
          · rw [if_neg e2, if_neg (by omega)]
      · show (sL v 1 (192 * i + x) (u'.2 1 (192 * (i + 1) + x))).2 1 (192 * c + r) = _
        rw [sL2]
        by_cases e : c = i ∧ r = x
        · obtain ⟨rfl, rfl⟩ := e
          rw [if_pos ⟨rfl, rfl⟩, if_pos ⟨rfl, Nat.lt_succ_self r⟩]
        · rw [if_neg (by omega), f4 c r hc hr]
          by_cases e2 : c = i ∧ r < x
          · rw [if_pos e2, if_pos (by omega)]
          · rw [if_neg e2, if_neg (by omega)]
    · obtain ⟨z1, v⟩ := z
      obtain ⟨hz, f1, f2, f3, f4⟩ := hJ
      simp only at hz f1 f2 f3 f4
      subst hz
      refine wp_eq (if_pos ge192) ⟨f1, f2, fun c r hc hr => ?_, fun c r hc hr => ?_⟩
      · rw [f3 c r hc hr]
        by_cases e : c = i
        · rw [if_pos ⟨e, hr⟩, if_pos e]
        · rw [if_neg (fun z => e z.1), if_neg e]
      · rw [f4 c r hc hr]
        by_cases e : c = i
        · rw [if_pos ⟨e, hr⟩, if_pos e]
        · rw [if_neg (fun z => e z.1), if_neg e]
    · obtain ⟨f1, f2, f3, f4⟩ := hv
      have f10 : ∀ j, v.1 0 j = u'.1 0 j := fun j => by rw [f1 0 (by decide)]; exact sIn (by omega)
      have shs : ∀ c r, c < k → (shC C a (i + 1) c r = if c = i then shC C a i (i + 1) r else shC C a i c r) := fun c r hc => by
        unfold shC
        by_cases e : c = i
        · subst e
          rw [if_pos (by omega), if_pos rfl, if_neg (by omega)]
        · rw [if_neg e]
          by_cases e2 : a ≤ c ∧ c < i
          · rw [if_pos e2, if_pos (by omega)]
          · rw [if_neg e2, if_neg (by omega)]
      refine wp_some ⟨rfl, by rw [show (nI (i + 1), v).2.1 0 0 = v.1 0 0 from rfl, f10]; exact g1, (f10 6).trans g2, (f10 5).trans g3, (f10 7).trans g4, fun j hj => ⟨(f1 j (by omega)).trans ((sI_ne (by omega)).trans (g5 j hj).1), (f2 j (by omega)).trans (g5 j hj).2⟩, fun c hc => ?_, fun c r hc hr => ?_, fun c r hc hr hN => ?_⟩
      · show v.1 3 c = _
        rw [f1 3 (by decide), sI1]
        unfold shN
        by_cases e : c = i
        · subst e
          rw [if_pos ⟨rfl, rfl⟩, if_neg (by omega), if_pos (by omega)]
        · rw [if_neg (fun z => e z.2), g6 c hc]
          unfold shN
          by_cases e2 : a ≤ c ∧ c < i
          · rw [if_pos e2, if_pos (by omega)]
          · rw [if_neg e2, if_neg (by omega)]
      · show v.1 2 (192 * c + r) = _
        rw [f3 c r hc hr, shs c r hc]
        by_cases e : c = i
        · rw [if_pos e, if_pos e]; exact g7 (i + 1) r (by omega) hr
        · rw [if_neg e, if_neg e]; exact g7 c r hc hr
      · show v.2 1 (192 * c + r) = _
        rw [shs c r hc] at hN ⊢
        rw [f4 c r hc (by omega)]
        by_cases e : c = i
        · rw [if_pos e] at hN ⊢; rw [if_pos e]; exact g8 (i + 1) r (by omega) hr hN
        · rw [if_neg e] at hN ⊢; rw [if_neg e]; exact g8 c r hc hr hN
  · obtain ⟨z1, u'⟩ := z
    obtain ⟨hz, g1, g2, g3, g4, g5, g6, g7, g8⟩ := hJ
    simp only at hz g1 g2 g3 g4 g5 g6 g7 g8
    subst hz
    simp only [g2]
    exact wp_eq (if_pos (geL (k - 1) (by omega))) ⟨g1, g2, g3, g4, g5, g6, g7, g8⟩
  · obtain ⟨g1, g2, g3, g4, g5, g6, g7, g8⟩ := hu
    have en : ∀ c, c < k - 1 → shN w a (k - 1) c = rotN w a (k - 1) c := fun c hc => by
      unfold shN rotN
      by_cases e : c < a
      · rw [if_neg (by omega), if_pos e]
      · rw [if_pos (by omega), if_neg e, if_pos hc]
    have ec : ∀ c r, c < k - 1 → shC C a (k - 1) c r = rotC C a (k - 1) c r := fun c r hc => by
      unfold shC rotC
      by_cases e : c < a
      · rw [if_neg (by omega), if_pos e]
      · rw [if_pos (by omega), if_neg e, if_pos hc]
    rw [g2]
    have hWe : Wf n (k - 1) (rotN w a (k - 1)) (rotC C a (k - 1)) M := ⟨hn, by omega, fun c hc => hW'.hw (by omega), fun c r hc hr => hW'.hf (by omega) hr, hW'.2.2.2.2⟩
    refine Agr.ok (q := q) hWe hI rfl rfl g1 ?_ ?_
    · exact ⟨⟨by omega, hC'.rows⟩, sIs, hC'.kept, fun c hc => hC'.wid (by omega), fun c r hc hr => hC'.cell (by omega) hr, fun m r hm hr => hC'.bit hm hr⟩
    · refine ⟨g3, g2, g4, fun c hc => ?_, fun c r hc hr => ?_, fun c r hc hr hN => ?_, fun m r hm hr => ?_, fun i hi => ⟨(g5 i (by omega)).1.trans (hM.img hi).1, (g5 i (by omega)).2.trans (hM.img hi).2⟩⟩
      · rw [g6 c (by omega), en c hc]
      · rw [g7 c r (by omega) hr, ec c r hc]
      · rw [g8 c r (by omega) hr (by rw [ec c r hc]; exact hN), ec c r hc]
      · rw [(g5 4 (by decide)).1]; exact hM.msk hm hr
