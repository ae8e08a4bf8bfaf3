/-! ===== copy, pick ===== -/
theorem RM.putN {n k : Nat} {w : Nat → Nat} {C : Nat → Nat → Int64} {M : Nat → Nat → Bool} {q : Int32} {J u : St} {c r : Nat} {y : Int64} (h : RM n k w C M q J u) (hr : r < n) (hn : n ≤ 192) : RM n k w (upC C c r ((-9223372036854775808) : Int64)) M q J (sL (sI u 2 (192 * c + r) (bI false)) 1 (192 * c + r) y) := by
  have h1 := h.clrCell (c := c) hr hn
  refine ⟨h1.rows, h1.cols, h1.kept, fun a ha => h1.wid ha, fun a b ha hb => h1.has ha hb, fun a b ha hb hN => ?_, fun a b ha hb => h1.msk ha hb, fun i hi => ⟨(h1.img hi).1, (sL_ne (by omega)).trans (h1.img hi).2⟩⟩
  have : ¬ (a = c ∧ b = r) := fun q => hN (if_pos q)
  rw [sLn (by omega)]
  exact h1.cell ha hb hN
theorem Agr.eBl {α γ : Type} {tbl : List String} {R : St → St → Prop} {o : Option (γ ⊕ (α × St))} {kk : γ → Option (α × St)} {co : Option (Except String α × St)} {a : γ} (h : wp o (fun x => x = .inl a)) (hk : Agr tbl R co (kk a)) : Agr tbl R co (eB o kk) := by
  rw [wp_val h]
  exact hk
theorem Agr.eBr {α γ : Type} {tbl : List String} {R : St → St → Prop} {o : Option (γ ⊕ (α × St))} {kk : γ → Option (α × St)} {co : Option (Except String α × St)} {b : α × St} (h : wp o (fun x => x = .inr b)) (hk : Agr tbl R co (some b)) : Agr tbl R co (eB o kk) := by
  rw [wp_val h]
  exact hk
theorem op_copy (I : Ims) (s u : St) (a0 a1 a2 : Int32) (h : Rl I s u) : Agr ["java/lang/IndexOutOfBoundsException", "java/lang/ArithmeticException"] (Rl I) (c_X3_copy s a0 a1 a2) (m_X4_copy u a0 a1 a2) := by
  obtain ⟨n, k, w, C, M, q, J, hW, hC, hM0, hI⟩ := h
  unfold c_X3_copy m_X4_copy
  have hM : RM n k w C M q J (sI u 0 0 0) := hM0.sI0 (Or.inl rfl)
  have ht : (sI u 0 0 0).1 0 0 = 0 := sIs
  generalize sI u 0 0 0 = u0 at hM ht ⊢
  simp only [needMask_eq, needWord_eq, needImage_eq, needColumn_eq hC hW, needRow_eq hC hW, needWidth_eq, xB_gX, isMask_eq, isWord_eq, isColumn_eq hM hW, isRow_eq hM hW, areIn_eq hM hW, isIn_eq, rg_if, needArgument_eq, needState_eq, Option.bind_some, if_bI, fails_eq, t64, I_m192, I_m62, I_m9, I_0, I_1, I_2, I_3, I_5, I_9, I_16, I_62, I_63, I_64, I_192, I_1000, L_m192, L_m62, L_m9, L_0, L_1, L_2, L_3, L_5, L_9, L_16, L_62, L_63, L_64, L_192, L_1000]
  by_cases h1 : inB a0 k = true
  case neg =>
    rw [Bool.not_eq_true] at h1
    simp only [h1, Bool.false_and, Bool.and_false, Bool.and_self, Bool.true_and, Bool.and_true, Bool.false_eq_true, eq_self, if_true, if_false, reduceIte, ite_self]
    exact Agr.err hW hI 0 rfl rfl rfl sIs hC (hM.sI0 (Or.inl rfl))
  by_cases h2 : inB a1 k = true
  case neg =>
    rw [Bool.not_eq_true] at h2
    simp only [h1, h2, Bool.false_and, Bool.and_false, Bool.and_self, Bool.true_and, Bool.and_true, Bool.false_eq_true, eq_self, if_true, if_false, reduceIte, ite_self]
    exact Agr.err hW hI 0 rfl rfl rfl sIs hC (hM.sI0 (Or.inl rfl))
  by_cases h3 : inB a2 8 = true
  case neg =>
    rw [Bool.not_eq_true] at h3
    simp only [h1, h2, h3, Bool.false_and, Bool.and_false, Bool.and_self, Bool.true_and, Bool.and_true, Bool.false_eq_true, eq_self, if_true, if_false, reduceIte, ite_self]
    exact Agr.err hW hI 0 rfl rfl rfl sIs hC (hM.sI0 (Or.inl rfl))
  simp only [h1, h2, h3, Bool.false_and, Bool.and_false, Bool.and_self, Bool.true_and, Bool.and_true, Bool.false_eq_true, eq_self, if_true, if_false, reduceIte, ite_self]
  obtain ⟨c, hc, rfl⟩ := inB_ex hW.k31 h1
  obtain ⟨d, hd, rfl⟩ := inB_ex hW.k31 h2
  obtain ⟨m, hm, rfl⟩ := inB_ex (by decide) h3
  have hc6 := hW.c6 hc
  have hd6 := hW.c6 hd
  have hn := hW.hn
  have hw := hW.hw hc
  refine Agr.bindC (expect_eq hC hW hc) (fun σ1 h1 => ?_)
  refine Agr.bindC (cact0 (c := c) (M m) (C d) hW (hC.oc (by decide) h1.1) h1.2 (fun i σ' hi hC' => ?_) (fun σ' hC' => ?_)) (fun σ2 hσ => ?_)
  · simp only [hC'.rows, if_neg (ltL n hW.n31 hi), isUnder_eq hC' hm (hW.r192 hi), Option.bind_some, if_bI]
    by_cases e : M m i = true
    · rw [if_pos e, if_pos e, ix6 hd6, Option.bind_some, ix192 (hW.r192 hi), Option.bind_some, Option.bind_some, Option.bind_some, hC'.cell hd hi, nI_s i]
    · rw [if_neg e, if_neg e, Option.bind_some, nI_s i]
  · simp only [hC'.rows]
    exact if_pos (geL n hW.n31)
  obtain ⟨y, ey, hy⟩ := come_wp hσ.1 hW hc hσ.2
  rw [ey]
  have first : ∀ (B : Bool), (B = true ↔ ∀ r, r < n → M m r = true → C d r ≠ ((-9223372036854775808) : Int64) → fitB (w c) (C d r) = true) → okD (w c) (dP C c (M m) (C d)) n = B := by
    intro B hB
    unfold okD
    rw [Bool.eq_iff_iff, decide_eq_true_eq, hB]
    constructor
    · intro h r hr e eN
      have := h r hr
      rw [dP_t e, Bool.or_eq_true] at this
      exact this.resolve_left (fun q => eN (by simpa using q))
    · intro h r hr
      by_cases e : M m r = true
      · rw [dP_t e, Bool.or_eq_true]
        by_cases eN : C d r = ((-9223372036854775808) : Int64)
        · left; rw [eN]; simp
        · right; exact h r hr e eN
      · rw [dP_f e, Bool.or_eq_true]
        rcases hW.hf hc hr with q | q
        · left; rw [q]; simp
        · right; exact fitB_t.mpr q
  rcases hy with ⟨b1, τ, rfl, b2⟩ | ⟨b1, rfl⟩
  · have hall : ∀ r, r < n → M m r = true → C d r ≠ ((-9223372036854775808) : Int64) → fitB (w c) (C d r) = true := by
      intro r hr e eN
      have := of_decide_eq_true b1 r hr
      rw [dP_t e, Bool.or_eq_true] at this
      exact this.resolve_left (fun q => eN (by simpa using q))
    have hD := fun r hr => by
      have := of_decide_eq_true b1 r hr
      rw [Bool.or_eq_true] at this
      exact this.imp (fun q => (by simpa using q : dP C c (M m) (C d) r = ((-9223372036854775808) : Int64))) fitB_t.mp
    refine Agr.eBl (a := ()) (wp_lp n (fun i z => z = nI i) hW.n5 rfl (fun i z hi hJ => by
      subst hJ
      have hi2 := hW.r192 hi
      simp only [hM.rows, if_neg (ltL n hW.n31 hi), hasUnder_eq hM hW hd hi2 hm, Option.bind_some, if_bI, mfits_eq hM hW hc]
      by_cases e : (C d i != ((-9223372036854775808) : Int64) && M m i) = true
      · have eN := nbN (Bool.and_eq_true_iff.mp e).1
        rw [if_pos e, at_eq, Option.bind_some, ixA hd6 hi2, Option.bind_some, hM.cell hd hi eN, if_pos (hall i hi (Bool.and_eq_true_iff.mp e).2 eN), nI_s i]
        exact wp_some rfl
      · rw [if_neg e, nI_s i]
        exact wp_some rfl) (fun z hJ => by
      subst hJ
      simp only [hM.rows]
      exact wp_eq (if_pos (geL n hW.n31)) rfl)) ?_
    refine Agr.bindM (P := fun z => z.1 = nI (fb_ct (fun r => C c r != dP C c (M m) (C d) r) n) ∧ z.2.1 0 0 = 0 ∧ RM n k w (colT C c (dP C c (M m) (C d)) n) M q J z.2) (wp_lp n (fun i (z : Int32 × Int32 × St) => z.1 = nI (fb_ct (fun r => C c r != dP C c (M m) (C d) r) i) ∧ z.2.1 = nI i ∧ z.2.2.1 0 0 = 0 ∧ RM n k w (colT C c (dP C c (M m) (C d)) i) M q J z.2.2) hW.n5 ⟨rfl, rfl, ht, by rw [colT_0]; exact hM⟩ (fun i z hi hJ => ?_) (fun z hJ => ?_)) (fun z hz => ?_)
    · obtain ⟨z1, z2, v⟩ := z
      obtain ⟨e1, e2, h0, h1⟩ := hJ
      simp only at e1 e2 h0 h1
      subst e1 e2
      have hi2 := hW.r192 hi
      have hWi := hW.colD hD i
      have hc1 := h1.has' hWi hc hi
      have hd1 := h1.has' hWi hd hi
      rw [colT_o] at hc1 hd1
      simp only [h1.rows, if_neg (ltL n hW.n31 hi), at_eq, Option.bind_some, ixB hm hi2, h1.msk hm hi2, if_bI]
      by_cases e : M m i = true
      · have hdp : dP C c (M m) (C d) i = C d i := dP_t e
        have one : m_X4_areOne v (nI c) (nI d) (nI i) = some (bI (C c i == C d i)) := by
          unfold m_X4_areOne
          rw [at_eq, Option.bind_some, at_eq, Option.bind_some, ixA hc6 hi2, Option.bind_some, ixA hd6 hi2, Option.bind_some, Option.bind_some, hc1, hd1]
          simp only [bI_inj, if_bI, Option.bind_some]
          by_cases eN : C c i = ((-9223372036854775808) : Int64)
          · by_cases eM : C d i = ((-9223372036854775808) : Int64)
            · rw [eN, eM]; simp; rfl
            · have q1 : (C d i != ((-9223372036854775808) : Int64)) = true := by simpa using eM
              have q2 : (C c i == C d i) = false := by rw [eN]; simpa using fun q => eM q.symm
              rw [q2, eN, q1]; simp; rfl
          · have q0 : (C c i != ((-9223372036854775808) : Int64)) = true := by simpa using eN
            have ec : v.2 1 (192 * c + i) = C c i := by
              have := h1.cell hc hi (by rw [colT_o]; exact eN)
              rwa [colT_o] at this
            by_cases eM : C d i = ((-9223372036854775808) : Int64)
            · have q2 : (C c i == C d i) = false := by rw [eM]; simpa using eN
              rw [q2, q0, eM]; simp; rfl
            · have q1 : (C d i != ((-9223372036854775808) : Int64)) = true := by simpa using eM
              have ed : v.2 1 (192 * d + i) = C d i := by
                have := h1.cell hd hi (by rw [colT_o]; exact eM)
                rwa [colT_o] at this
              rw [q0, q1, if_pos rfl, if_pos rfl, ec, ed]
              by_cases ee : C c i = C d i
              · rw [if_pos ee, ee]; simp; rfl
              · have q3 : (C c i == C d i) = false := by simpa using ee
                rw [if_neg ee, q3]; rfl
        rw [if_pos e, one, Option.bind_some, if_bI]
        by_cases ee : C c i = C d i
        · have q3 : (C c i == C d i) = true := by simpa using ee
          rw [if_pos q3, Option.bind_some, nI_s i]
          refine wp_some ⟨ct_f (by show (C c i != dP C c (M m) (C d) i) = false; rw [hdp, ee]; simp), rfl, h0, ?_⟩
          rw [← colT_e C c _ i (hdp.trans ee.symm)]
          exact h1
        · have q3 : ¬ (C c i == C d i) = true := by simpa using ee
          rw [if_neg q3, ixA hd6 hi2, Option.bind_some, ixA hc6 hi2, Option.bind_some, hd1, nz_bI, Option.bind_some, Option.bind_some, Option.bind_some, nI_s i, sI2]
          refine wp_some ⟨ct_t (by show (C c i != dP C c (M m) (C d) i) = true; rw [hdp]; simpa using ee), rfl, h0, ?_⟩
          rw [← colT_s, hdp]
          by_cases eM : C d i = ((-9223372036854775808) : Int64)
          · rw [eM, bne_self_eq_false]
            exact h1.putN hi hn
          · have q1 : (C d i != ((-9223372036854775808) : Int64)) = true := by simpa using eM
            have ed : v.2 1 (192 * d + i) = C d i := by
              have := h1.cell hd hi (by rw [colT_o]; exact eM)
              rwa [colT_o] at this
            rw [q1, ed]
            exact h1.setCell hi hn eM
      · rw [if_neg e, Option.bind_some, nI_s i]
        have hdp : dP C c (M m) (C d) i = C c i := dP_f e
        refine wp_some ⟨ct_f (by show (C c i != dP C c (M m) (C d) i) = false; rw [hdp]; simp), rfl, h0, ?_⟩
        rw [← colT_e C c _ i hdp]
        exact h1
    · obtain ⟨z1, z2, v⟩ := z
      obtain ⟨e1, e2, h0, h1⟩ := hJ
      simp only at e1 e2 h0 h1
      subst e1 e2
      simp only [h1.rows]
      exact wp_eq (if_pos (geL n hW.n31)) ⟨rfl, h0, h1⟩
    obtain ⟨z1, u'⟩ := z
    obtain ⟨e1, h0, hM'⟩ := hz
    simp only at e1 h0 hM'
    subst e1
    exact Agr.ok (hW.colD hD n) hI rfl rfl h0 b2 hM'
  · have hno : ¬ ∀ r, r < n → M m r = true → C d r ≠ ((-9223372036854775808) : Int64) → fitB (w c) (C d r) = true := fun q => by
      rw [first true ⟨fun _ => q, fun _ => rfl⟩] at b1; cases b1
    refine Agr.eBr (b := ((0 : Int32), sI (sI u0 0 7 (u0.1 0 7 + 1)) 0 0 2)) (wp_lp n (fun i z => z = nI i ∧ ∀ r, r < i → M m r = true → C d r ≠ ((-9223372036854775808) : Int64) → fitB (w c) (C d r) = true) hW.n5 ⟨rfl, fun r h => absurd h (by omega)⟩ (fun i z hi hJ => by
      obtain ⟨rfl, h2⟩ := hJ
      have hi2 := hW.r192 hi
      simp only [hM.rows, if_neg (ltL n hW.n31 hi), hasUnder_eq hM hW hd hi2 hm, Option.bind_some, if_bI, mfits_eq hM hW hc]
      by_cases e : (C d i != ((-9223372036854775808) : Int64) && M m i) = true
      · have eN := nbN (Bool.and_eq_true_iff.mp e).1
        rw [if_pos e, at_eq, Option.bind_some, ixA hd6 hi2, Option.bind_some, hM.cell hd hi eN]
        by_cases ef : fitB (w c) (C d i) = true
        · rw [if_pos ef, nI_s i]
          exact wp_some ⟨rfl, lt_s h2 (fun _ _ => ef)⟩
        · rw [if_neg ef, tooGreat_eq, Option.bind_some]
          exact wp_some rfl
      · rw [if_neg e, nI_s i]
        refine wp_some ⟨rfl, lt_s h2 (fun q1 q2 => absurd ?_ e)⟩
        rw [q1, Bool.and_true]
        simpa using q2) (fun z hJ => absurd hJ.2 hno)) ?_
    exact Agr.act hW hI 1 rfl rfl rfl hσ.1 hM
/-- the end of an act that counts what has changed -/
theorem act_end2 {n k : Nat} {w : Nat → Nat} {C : Nat → Nat → Int64} {M : Nat → Nat → Bool} {q : Int32} {J u σ' : St} {c : Nat} {D : Nat → Int64} {p : Nat → Bool} {g : Nat → Int64} {I : Ims} {tbl : List String} (hW : Wf n k w C M) (hI : ImR I J) (hc : c < k) (j : Nat) (htb : tbl[j]? = some "java/lang/ArithmeticException") (hC' : RC n k w C M q σ') (hD : ∀ r, r < n → σ'.2 27 r = D r) (hDp : D = dP C c p g) (hct : ∀ r, r < n → p r = (C c r != D r)) (hN : ∀ r, r < n → p r = true → fitB (w c) (g r) = false → g r ≠ ((-9223372036854775808) : Int64)) (hu : RM n k w C M q J u ∧ u.1 0 0 = 0 ∧ ((u.1 0 14 = 0 ∧ (∀ r, r < n → p r = true → fitB (w c) (g r) = true) ∧ ∀ r, r < n → u.1 9 r = bI (p r) ∧ (p r = true → u.2 8 r = g r)) ∨ (¬ u.1 0 14 = 0 ∧ ¬ ∀ r, r < n → p r = true → fitB (w c) (g r) = true))) : Agr tbl (Rl I) (xB (c_X3_come σ' (nI c)) fun v s => some (.ok v, s)) ((m_X4_done u (nI c) (nI (j + 1))).bind fun v => some (v.1, v.2)) := by
  subst hDp
  obtain ⟨y, ey, hy⟩ := come_wp hC' hW hc hD
  rw [ey]
  obtain ⟨hM', ht', hu⟩ := hu
  rcases hu with ⟨a1, a2, a3⟩ | ⟨a1, a2⟩
  · rcases hy with ⟨b1, τ, rfl, b2⟩ | ⟨b1, rfl⟩
    · obtain ⟨⟨d1, u1⟩, ed, d2, d3, d4⟩ := done_wp hM' hW hc ht' a1 a2 a3 (nI (j + 1))
      simp only at d2 d3 d4
      subst d2
      rw [ed, ← fb_ct_cong hct]
      exact Agr.ok (okD_wf hW b1 n) hI rfl rfl d3 b2 d4
    · rw [(okD_dP hW hc hN).mpr a2] at b1; cases b1
  · rcases hy with ⟨b1, τ, rfl, b2⟩ | ⟨b1, rfl⟩
    · exact absurd ((okD_dP hW hc hN).mp b1) a2
    · rw [done_no a1]
      exact Agr.act hW hI j rfl rfl htb hC' hM'
def pkG (a2 : Int32) (x y : Int64) : Int64 := if a2 = 0 then (if y < x then y else x) else (if x < y then y else x)
def pkB (a2 : Int32) (x y : Int64) : Bool := if a2 = 0 then decide (y < x) else decide (x < y)
theorem pk_v (a2 : Int32) (x y : Int64) : pkG a2 x y = if pkB a2 x y = true then y else x := by
  unfold pkG pkB
  by_cases h : a2 = 0
  · simp only [if_pos h, decide_eq_true_eq]
  · simp only [if_neg h, decide_eq_true_eq]
theorem pk_ne {a2 : Int32} {x y : Int64} (h : pkB a2 x y = true) : x ≠ y := by
  unfold pkB at h
  intro e
  subst e
  split at h
  · rw [decide_eq_true_eq, fa_lt64] at h; omega
  · rw [decide_eq_true_eq, fa_lt64] at h; omega
theorem op_pick (I : Ims) (s u : St) (a0 a1 a2 a3 : Int32) (h : Rl I s u) : Agr ["java/lang/IndexOutOfBoundsException", "java/lang/ArithmeticException"] (Rl I) (c_X3_pick s a0 a1 a2 a3) (m_X4_pick u a0 a1 a2 a3) := by
  obtain ⟨n, k, w, C, M, q, J, hW, hC, hM0, hI⟩ := h
  unfold c_X3_pick m_X4_pick
  have hM : RM n k w C M q J (sI u 0 0 0) := hM0.sI0 (Or.inl rfl)
  have ht : (sI u 0 0 0).1 0 0 = 0 := sIs
  generalize sI u 0 0 0 = u0 at hM ht ⊢
  simp only [needMask_eq, needWord_eq, needImage_eq, needColumn_eq hC hW, needRow_eq hC hW, needWidth_eq, xB_gX, isMask_eq, isWord_eq, isColumn_eq hM hW, isRow_eq hM hW, areIn_eq hM hW, isIn_eq, rg_if, needArgument_eq, needState_eq, Option.bind_some, if_bI, fails_eq, t64, I_m192, I_m62, I_m9, I_0, I_1, I_2, I_3, I_5, I_9, I_16, I_62, I_63, I_64, I_192, I_1000, L_m192, L_m62, L_m9, L_0, L_1, L_2, L_3, L_5, L_9, L_16, L_62, L_63, L_64, L_192, L_1000]
  by_cases h1 : inB a0 k = true
  case neg =>
    rw [Bool.not_eq_true] at h1
    simp only [h1, Bool.false_and, Bool.and_false, Bool.and_self, Bool.true_and, Bool.and_true, Bool.false_eq_true, eq_self, if_true, if_false, reduceIte, ite_self]
    exact Agr.err hW hI 0 rfl rfl rfl sIs hC (hM.sI0 (Or.inl rfl))
  by_cases h2 : inB a1 k = true
  case neg =>
    rw [Bool.not_eq_true] at h2
    simp only [h1, h2, Bool.false_and, Bool.and_false, Bool.and_self, Bool.true_and, Bool.and_true, Bool.false_eq_true, eq_self, if_true, if_false, reduceIte, ite_self]
    exact Agr.err hW hI 0 rfl rfl rfl sIs hC (hM.sI0 (Or.inl rfl))
  by_cases h3 : inB a3 8 = true
  case neg =>
    rw [Bool.not_eq_true] at h3
    simp only [h1, h2, h3, Bool.false_and, Bool.and_false, Bool.and_self, Bool.true_and, Bool.and_true, Bool.false_eq_true, eq_self, if_true, if_false, reduceIte, ite_self]
    exact Agr.err hW hI 0 rfl rfl rfl sIs hC (hM.sI0 (Or.inl rfl))
  simp only [h1, h2, h3, Bool.false_and, Bool.and_false, Bool.and_self, Bool.true_and, Bool.and_true, Bool.false_eq_true, eq_self, if_true, if_false, reduceIte, ite_self]
  obtain ⟨c, hc, rfl⟩ := inB_ex hW.k31 h1
  obtain ⟨d, hd, rfl⟩ := inB_ex hW.k31 h2
  obtain ⟨m, hm, rfl⟩ := inB_ex (by decide) h3
  have hc6 := hW.c6 hc
  have hd6 := hW.c6 hd
  refine Agr.bindC (expect_eq hC hW hc) (fun σ1 h1 => ?_)
  refine Agr.bindC (cact0 (c := c) (fun r => C d r != ((-9223372036854775808) : Int64) && (C c r != ((-9223372036854775808) : Int64) && M m r)) (fun r => pkG a2 (C c r) (C d r)) hW (hC.oc (by decide) h1.1) h1.2 (fun i σ' hi hC' => ?_) (fun σ' hC' => ?_)) (fun σ2 hσ => ?_)
  · simp only [hC'.rows, if_neg (ltL n hW.n31 hi), areBoth_eq hC' hW hc hd hi hm, Option.bind_some, if_bI]
    by_cases e : (C d i != ((-9223372036854775808) : Int64) && (C c i != ((-9223372036854775808) : Int64) && M m i)) = true
    · rw [if_pos e, if_pos e, ix6 hc6, Option.bind_some, ix192 (hW.r192 hi), Option.bind_some, ix6 hd6, Option.bind_some, Option.bind_some, hC'.cell hc hi, hC'.cell hd hi, minL_eq, Option.bind_some, maxL_eq, Option.bind_some]
      unfold pkG
      by_cases q : a2 = 0
      · rw [if_pos q, if_pos q, Option.bind_some, Option.bind_some, Option.bind_some, nI_s i]
      · rw [if_neg q, if_neg q, Option.bind_some, Option.bind_some, Option.bind_some, nI_s i]
    · rw [if_neg e, if_neg e, Option.bind_some, nI_s i]
  · simp only [hC'.rows]
    exact if_pos (geL n hW.n31)
  refine Agr.bindM (begins_wp hM ht) (fun u1 hu1 => ?_)
  obtain ⟨hM1, ht1, h14, h9⟩ := hu1
  refine Agr.bindM (mact (c := c) (fun r => (C d r != ((-9223372036854775808) : Int64) && (C c r != ((-9223372036854775808) : Int64) && M m r)) && pkB a2 (C c r) (C d r)) (C d) hW hM1 ht1 h14 h9 (fun i u' hi hM' => ?_) (fun u' hM' => ?_)) (fun u2 hu2 => ?_)
  · have hi2 := hW.r192 hi
    simp only [hM'.rows, if_neg (ltL n hW.n31 hi), hasUnder_eq hM' hW hc hi2 hm, Option.bind_some, if_bI]
    by_cases e2 : (C c i != ((-9223372036854775808) : Int64) && M m i) = true
    · by_cases e3 : (C d i != ((-9223372036854775808) : Int64)) = true
      · have hN := nbN (Bool.and_eq_true_iff.mp e2).1
        have hN2 := nbN e3
        have e : (C d i != ((-9223372036854775808) : Int64) && (C c i != ((-9223372036854775808) : Int64) && M m i)) = true := by rw [e3, e2]; rfl
        have no : pkB a2 (C c i) (C d i) = false → wp ((some u').bind fun t21 => some (.inl (nI (i + 1), t21) : (Int32 × St) ⊕ St)) (fun o => ∃ u'', o = .inl (nI (i + 1), u'') ∧ stepM (w c) (fun r => (C d r != ((-9223372036854775808) : Int64) && (C c r != ((-9223372036854775808) : Int64) && M m r)) && pkB a2 (C c r) (C d r)) (C d) i u' u'') := fun q => wp_some ⟨_, rfl, Or.inl ⟨by show ((C d i != ((-9223372036854775808) : Int64) && (C c i != ((-9223372036854775808) : Int64) && M m i)) && pkB a2 (C c i) (C d i)) = false; rw [q, Bool.and_false], rfl⟩⟩
        have yes : pkB a2 (C c i) (C d i) = true → wp (((m_X4_lays u' (nI c) (nI i) (C d i)).bind fun v46 => some v46).bind fun t21 => some (.inl (nI (i + 1), t21) : (Int32 × St) ⊕ St)) (fun o => ∃ u'', o = .inl (nI (i + 1), u'') ∧ stepM (w c) (fun r => (C d r != ((-9223372036854775808) : Int64) && (C c r != ((-9223372036854775808) : Int64) && M m r)) && pkB a2 (C c r) (C d r)) (C d) i u' u'') := by
          intro q
          have e5 : ((C d i != ((-9223372036854775808) : Int64) && (C c i != ((-9223372036854775808) : Int64) && M m i)) && pkB a2 (C c i) (C d i)) = true := by rw [e, q]; rfl
          rw [lays_eq hM' hW hc hi2, Option.bind_some, Option.bind_some]
          by_cases qf : fitB (w c) (C d i) = true
          · rw [if_pos qf]
            exact wp_some ⟨_, rfl, Or.inr (Or.inl ⟨e5, qf, rfl⟩)⟩
          · rw [if_neg qf]
            rw [Bool.not_eq_true] at qf
            exact wp_some ⟨_, rfl, Or.inr (Or.inr ⟨e5, qf, Or.inr ⟨_, rfl⟩⟩)⟩
        rw [if_pos e2, at_eq, Option.bind_some, ixA hd6 hi2, Option.bind_some, hM'.has' hW hd hi, if_bI, if_pos e3, at_eq, Option.bind_some, ixA hc6 hi2, Option.bind_some, Option.bind_some, ixA hd6 hi2, Option.bind_some, hM'.cell hc hi hN, hM'.cell hd hi hN2, nI_s i]
        unfold pkB at no yes
        by_cases q : a2 = 0
        · rw [if_pos q]
          simp only [if_pos q] at no yes
          by_cases q2 : C c i ≤ C d i
          · rw [if_pos q2]
            have := no (decide_eq_false (by rw [fa_lt64]; rw [fa_le64] at q2; omega))
            unfold pkB
            simp only [if_pos q]
            exact this
          · rw [if_neg q2]
            have := yes (decide_eq_true (by rw [fa_lt64]; rw [fa_le64] at q2; omega))
            unfold pkB
            simp only [if_pos q]
            exact this
        · rw [if_neg q]
          simp only [if_neg q] at no yes
          by_cases q2 : C d i ≤ C c i
          · rw [if_pos q2]
            have := no (decide_eq_false (by rw [fa_lt64]; rw [fa_le64] at q2; omega))
            unfold pkB
            simp only [if_neg q]
            exact this
          · rw [if_neg q2]
            have := yes (decide_eq_true (by rw [fa_lt64]; rw [fa_le64] at q2; omega))
            unfold pkB
            simp only [if_neg q]
            exact this
      · rw [if_pos e2, at_eq, Option.bind_some, ixA hd6 hi2, Option.bind_some, hM'.has' hW hd hi, if_bI, if_neg e3, Option.bind_some, nI_s i]
        rw [Bool.not_eq_true] at e3
        exact wp_some ⟨_, rfl, Or.inl ⟨by show ((C d i != ((-9223372036854775808) : Int64) && (C c i != ((-9223372036854775808) : Int64) && M m i)) && pkB a2 (C c i) (C d i)) = false; rw [e3]; rfl, rfl⟩⟩
    · rw [if_neg e2, Option.bind_some, nI_s i]
      rw [Bool.not_eq_true] at e2
      exact wp_some ⟨_, rfl, Or.inl ⟨by show ((C d i != ((-9223372036854775808) : Int64) && (C c i != ((-9223372036854775808) : Int64) && M m i)) && pkB a2 (C c i) (C d i)) = false; rw [e2, Bool.and_false]; rfl, rfl⟩⟩
  · simp only [hM'.rows]
    exact if_pos (geL n hW.n31)
  have hDD : dP C c (fun r => C d r != ((-9223372036854775808) : Int64) && (C c r != ((-9223372036854775808) : Int64) && M m r)) (fun r => pkG a2 (C c r) (C d r)) = dP C c (fun r => (C d r != ((-9223372036854775808) : Int64) && (C c r != ((-9223372036854775808) : Int64) && M m r)) && pkB a2 (C c r) (C d r)) (C d) := by
    funext r
    by_cases e1 : (C d r != ((-9223372036854775808) : Int64) && (C c r != ((-9223372036854775808) : Int64) && M m r)) = true
    · rw [dP_t (p := fun r => C d r != ((-9223372036854775808) : Int64) && (C c r != ((-9223372036854775808) : Int64) && M m r)) e1, pk_v]
      by_cases e2 : pkB a2 (C c r) (C d r) = true
      · rw [if_pos e2, dP_t (p := fun r => (C d r != ((-9223372036854775808) : Int64) && (C c r != ((-9223372036854775808) : Int64) && M m r)) && pkB a2 (C c r) (C d r)) (Bool.and_eq_true_iff.mpr ⟨e1, e2⟩)]
      · rw [if_neg e2, dP_f (p := fun r => (C d r != ((-9223372036854775808) : Int64) && (C c r != ((-9223372036854775808) : Int64) && M m r)) && pkB a2 (C c r) (C d r)) (fun q => e2 (Bool.and_eq_true_iff.mp q).2)]
    · rw [dP_f (p := fun r => C d r != ((-9223372036854775808) : Int64) && (C c r != ((-9223372036854775808) : Int64) && M m r)) e1, dP_f (p := fun r => (C d r != ((-9223372036854775808) : Int64) && (C c r != ((-9223372036854775808) : Int64) && M m r)) && pkB a2 (C c r) (C d r)) (fun q => e1 (Bool.and_eq_true_iff.mp q).1)]
  refine act_end2 hW hI hc 1 rfl hσ.1 hσ.2 hDD (fun r hr => ?_) (fun r hr e ef => ?_) hu2
  · rw [hDD]
    unfold dP
    show ((C d r != ((-9223372036854775808) : Int64) && (C c r != ((-9223372036854775808) : Int64) && M m r)) && pkB a2 (C c r) (C d r)) = (C c r != if ((C d r != ((-9223372036854775808) : Int64) && (C c r != ((-9223372036854775808) : Int64) && M m r)) && pkB a2 (C c r) (C d r)) = true then C d r else C c r)
    cases e : ((C d r != ((-9223372036854775808) : Int64) && (C c r != ((-9223372036854775808) : Int64) && M m r)) && pkB a2 (C c r) (C d r)) with
    | false => simp
    | true =>
      have := pk_ne (Bool.and_eq_true_iff.mp e).2
      rw [if_pos rfl]
      simpa using this
  · exact nbN (Bool.and_eq_true_iff.mp (Bool.and_eq_true_iff.mp e).1).1
