/-! ===== numbers that fit ===== -/
/-! ===== the first index with a property; a count ===== -/
/-- the first k < n with p k, n if there is none -/
def fa_first (p : Nat → Bool) : Nat → Nat
  | 0 => 0
  | n + 1 => if fa_first p n < n then fa_first p n else if p n then n else n + 1
theorem fa_first_le (p : Nat → Bool) : ∀ n, fa_first p n ≤ n
  | 0 => Nat.le_refl 0
  | n + 1 => by
    have ih := fa_first_le p n
    unfold fa_first
    split
    · omega
    · split
      · omega
      · omega
theorem fa_first_no (p : Nat → Bool) : ∀ n k, k < fa_first p n → p k = false
  | 0, k, h => absurd h (Nat.not_lt_zero k)
  | n + 1, k, h => by
    have ih := fa_first_no p n
    have hl := fa_first_le p n
    unfold fa_first at h
    split at h
    · exact ih k h
    · rename_i h1
      split at h
      · exact ih k (by omega)
      · rename_i h2
        by_cases e : k = n
        · subst e
          exact Bool.eq_false_iff.mpr h2
        · exact ih k (by omega)
theorem fa_first_yes (p : Nat → Bool) : ∀ n, fa_first p n < n → p (fa_first p n) = true
  | 0, h => absurd h (Nat.not_lt_zero _)
  | n + 1, h => by
    have ih := fa_first_yes p n
    have hl := fa_first_le p n
    unfold fa_first at h ⊢
    split at h
    · rename_i h1
      rw [if_pos h1]
      exact ih h1
    · rename_i h1
      rw [if_neg h1]
      split at h
      · rename_i h2
        rw [if_pos h2]
        exact h2
      · omega
theorem sar_toInt {j : Nat} (hj : j < 64) (x : Int64) : (x >>> ((nI j).toInt64 &&& 63)).toInt = x.toInt / ((2 ^ j : Nat) : Int) := by
  show (x >>> ((nI j).toInt64 &&& 63)).toBitVec.toInt = _
  rw [Int64.toBitVec_shiftRight]
  show (x.toBitVec.sshiftRight (((nI j).toInt64 &&& 63).toBitVec.smod 64).toNat).toInt = _
  rw [sh_nI j hj, BitVec.toInt_sshiftRight, Int.shiftRight_eq_div_pow]
  rfl
theorem div0 {v P : Int} (hP : 0 < P) : v / P = 0 ↔ 0 ≤ v ∧ v < P := by
  have h1 := Int.emod_nonneg v (Int.ne_of_gt hP)
  have h2 := Int.emod_lt_of_pos v hP
  have h3 := Int.mul_ediv_add_emod v P
  constructor
  · intro h
    rw [h, Int.mul_zero] at h3
    omega
  · intro h
    exact Int.ediv_eq_zero_of_lt h.1 h.2
theorem divm1 {v P : Int} (hP : 0 < P) : v / P = -1 ↔ -P ≤ v ∧ v < 0 := by
  have h1 := Int.emod_nonneg v (Int.ne_of_gt hP)
  have h2 := Int.emod_lt_of_pos v hP
  have h3 := Int.mul_ediv_add_emod v P
  constructor
  · intro h
    rw [h] at h3
    omega
  · intro h
    have h4 : (v + 1 * P) / P = v / P + 1 := Int.add_mul_ediv_right v 1 (Int.ne_of_gt hP)
    have h5 : (v + 1 * P) / P = 0 := Int.ediv_eq_zero_of_lt (by omega) (by omega)
    omega
def fitB (w : Nat) (v : Int64) : Bool := decide (-((2 ^ (w - 1) : Nat) : Int) ≤ v.toInt) && decide (v.toInt < ((2 ^ (w - 1) : Nat) : Int))
theorem fitB_t {w : Nat} {v : Int64} : fitB w v = true ↔ Fit w v := by
  unfold fitB Fit
  rw [Bool.and_eq_true, decide_eq_true_eq, decide_eq_true_eq]
theorem p2pos (j : Nat) : (0 : Int) < ((2 ^ j : Nat) : Int) := Int.natCast_pos.mpr (Nat.pow_pos (by decide))
theorem fits_eq (σ : St) {wd : Nat} (h1 : 2 ≤ wd) (h2 : wd ≤ 63) (v : Int64) : c_X3_fits σ (nI wd) v = some (bI (fitB wd v)) := by
  unfold c_X3_fits
  have e1 : nI wd - (1 : Int32) = nI (wd - 1) := pk_sub (b := 1) (by omega)
  rw [e1]
  have e2 := sar_toInt (show wd - 1 < 64 by omega) v
  have e3 : ((v >>> ((nI (wd - 1)).toInt64 &&& 63)) = 0) = (0 ≤ v.toInt ∧ v.toInt < ((2 ^ (wd - 1) : Nat) : Int)) := by
    rw [fa_eq64, e2, L_0]
    exact propext (div0 (p2pos _))
  have e4 : ((v >>> ((nI (wd - 1)).toInt64 &&& 63)) = -1) = (-((2 ^ (wd - 1) : Nat) : Int) ≤ v.toInt ∧ v.toInt < 0) := by
    rw [fa_eq64, e2, show (-1 : Int64).toInt = -1 by decide]
    exact propext (divm1 (p2pos _))
  have hp := p2pos (wd - 1)
  unfold fitB
  simp only [e3, e4]
  generalize ((2 ^ (wd - 1) : Nat) : Int) = P at hp
  by_cases q1 : 0 ≤ v.toInt ∧ v.toInt < P
  · rw [if_pos q1, decide_eq_true (show -P ≤ v.toInt by omega), decide_eq_true q1.2]; rfl
  · rw [if_neg q1]
    by_cases q2 : -P ≤ v.toInt ∧ v.toInt < 0
    · rw [if_pos q2, decide_eq_true q2.1, decide_eq_true (show v.toInt < P by omega)]; rfl
    · rw [if_neg q2]
      by_cases q3 : -P ≤ v.toInt
      · rw [decide_eq_false (show ¬ v.toInt < P by omega), Bool.and_false]; rfl
      · rw [decide_eq_false q3, Bool.false_and]; rfl
theorem one_shl {j : Nat} (hj : j < 64) : (1 : Int64) <<< ((nI j).toInt64 &&& 63) = lN (2 ^ j) := by
  have := wb_shl 1 (k := j) hj
  rw [Nat.one_mul] at this
  exact this
theorem negT {x : Int64} (h : -9223372036854775808 < x.toInt) : (-x).toInt = -x.toInt := by
  rw [Int64.toInt_neg]
  have := fb_rngL x
  exact fb_bmodL (by omega) (by omega)
theorem p2_62 {j : Nat} (h : j ≤ 62) : 2 ^ j ≤ 4611686018427387904 := Nat.le_trans (Nat.pow_le_pow_right (by decide) h) (by decide)
section FITM
variable {n k : Nat} {w : Nat → Nat} {C : Nat → Nat → Int64} {M : Nat → Nat → Bool} {q : Int32} {σ τ u u' J : St} {c r m : Nat}
theorem most_eq (h : RM n k w C M q J u) (hW : Wf n k w C M) (hc : c < k) : m_X4_most u (nI c) = some (lN (2 ^ (w c - 1) - 1)) := by
  unfold m_X4_most
  have hw := hW.hw hc
  rw [ix6 (hW.c6 hc), Option.bind_some, h.wid hc, show nI (w c) - (1 : Int32) = nI (w c - 1) from pk_sub (b := 1) (by omega), one_shl (by omega), show (1 : Int64) = lN 1 from rfl, lN_sub (Nat.pow_pos (by decide))]
theorem most_T {j : Nat} (h : j ≤ 62) : (lN (2 ^ j - 1)).toInt = ((2 ^ j : Nat) : Int) - 1 ∧ ((-(lN (2 ^ j - 1))) - (1 : Int64)).toInt = -((2 ^ j : Nat) : Int) := by
  have h1 := p2_62 h
  have h0 : 0 < 2 ^ j := Nat.pow_pos (by decide)
  have e : (lN (2 ^ j - 1)).toInt = ((2 ^ j : Nat) : Int) - 1 := by
    rw [pk_lT (by omega)]; omega
  generalize 2 ^ j = P at h1 h0 e
  refine ⟨e, ?_⟩
  have e2 : (-(lN (P - 1))).toInt = -((P : Int) - 1) := by rw [negT (by omega), e]
  rw [fb_subL (by rw [e2, L_1]; omega) (by rw [e2, L_1]; omega), e2, L_1]
  omega
theorem mfits_eq (h : RM n k w C M q J u) (hW : Wf n k w C M) (hc : c < k) (v : Int64) : m_X4_fits u (nI c) v = some (bI (fitB (w c) v)) := by
  unfold m_X4_fits
  have hw := hW.hw hc
  have hT := most_T (j := w c - 1) (by omega)
  rw [most_eq h hW hc, Option.bind_some, Option.bind_some, isIn_eq, hT.1, hT.2, Option.bind_some, nz_bI]
  unfold rg fitB
  rw [show decide (v.toInt ≤ ((2 ^ (w c - 1) : Nat) : Int) - 1) = decide (v.toInt < ((2 ^ (w c - 1) : Nat) : Int)) from decide_eq_decide.mpr (by omega)]
theorem fitB_mono {a b : Nat} {v : Int64} (h : a ≤ b) (hf : fitB a v = true) : fitB b v = true := by
  rw [fitB_t] at hf ⊢
  have : 2 ^ (a - 1) ≤ 2 ^ (b - 1) := Nat.pow_le_pow_right (by decide) (by omega)
  unfold Fit at hf ⊢
  omega
theorem fit_N {a : Nat} {v : Int64} (h : a ≤ 63) (hf : fitB a v = true) : v ≠ ((-9223372036854775808) : Int64) := by
  intro e
  subst e
  rw [fitB_t] at hf
  have h1 := p2_62 (j := a - 1) (by omega)
  unfold Fit at hf
  have h2 : (((-9223372036854775808) : Int64)).toInt = -9223372036854775808 := by decide
  omega
/-- the least width that a number fits -/
def wOf (v : Int64) : Nat := fa_first (fun i => fitB (i + 2) v) 61 + 2
theorem wOf_in (v : Int64) : 2 ≤ wOf v ∧ wOf v ≤ 63 := by
  have := fa_first_le (fun i => fitB (i + 2) v) 61
  unfold wOf
  omega
theorem wOf_le {v : Int64} {j : Nat} (h2 : 2 ≤ j) (hf : fitB j v = true) : wOf v ≤ j := by
  unfold wOf
  have := fa_first_no (fun i => fitB (i + 2) v) 61 (j - 2)
  refine Nat.le_of_not_lt fun q => ?_
  have h3 := this (by omega)
  simp only [show j - 2 + 2 = j by omega] at h3
  rw [hf] at h3
  cases h3
theorem wOf_fit {v : Int64} (hf : fitB 63 v = true) : fitB (wOf v) v = true := by
  unfold wOf
  have h1 := fa_first_le (fun i => fitB (i + 2) v) 61
  by_cases h : fa_first (fun i => fitB (i + 2) v) 61 < 61
  · exact fa_first_yes (fun i => fitB (i + 2) v) 61 h
  · rw [show fa_first (fun i => fitB (i + 2) v) 61 = 61 by omega]
    exact hf
theorem wOf_max {v : Int64} {L i : Nat} (hf : fitB i v = true) (hL : 2 ≤ L) (hi : L ≤ i) (h63 : i ≤ 63) (hno : ∀ j, L ≤ j → j < i → fitB j v = false) : max L (wOf v) = i := by
  have h1 := wOf_le (by omega) hf
  have h2 := wOf_fit (fitB_mono h63 hf)
  by_cases e : i = L
  · subst e; omega
  · have h3 : ¬ wOf v < i := fun q => by
      have := hno (i - 1) (by omega) (by omega)
      rw [fitB_mono (show wOf v ≤ i - 1 by omega) h2] at this
      cases this
    omega
def lwd (f : Nat → Int64) : Nat → Nat
  | 0 => 2
  | i + 1 => if f i = ((-9223372036854775808) : Int64) then lwd f i else max (lwd f i) (wOf (f i))
theorem lwd_in (f : Nat → Int64) : ∀ i, 2 ≤ lwd f i ∧ lwd f i ≤ 63
  | 0 => by unfold lwd; omega
  | i + 1 => by
    have h1 := lwd_in f i
    have h2 := wOf_in (f i)
    unfold lwd
    split <;> omega
theorem lwd_ge (f : Nat → Int64) : ∀ i r, r < i → f r ≠ ((-9223372036854775808) : Int64) → wOf (f r) ≤ lwd f i
  | 0, r, h, _ => absurd h (by omega)
  | i + 1, r, h, hN => by
    unfold lwd
    by_cases e : r = i
    · subst e
      rw [if_neg hN]; omega
    · have := lwd_ge f i r (by omega) hN
      split <;> omega
theorem fit63 (hW : Wf n k w C M) (hc : c < k) (hr : r < n) (hN : C c r ≠ ((-9223372036854775808) : Int64)) : fitB 63 (C c r) = true := fitB_mono (hW.hw hc).2 (fitB_t.mpr ((hW.hf hc hr).resolve_left hN))
theorem leastWidth_eq (h : RC n k w C M q σ) (hW : Wf n k w C M) (hc : c < k) : c_X1_leastWidth σ (nI c) = some (nI (lwd (C c) n)) := by
  unfold c_X1_leastWidth
  have hc6 := hW.c6 hc
  rw [lp_g (fun i => (nI (lwd (C c) i), nI i)) n (nI (lwd (C c) n)) ?_ hW.n5 ?_ ?_]
  · rfl
  · rfl
  · intro i hi
    have hi2 := hW.r192 hi
    have hl := lwd_in (C c) i
    simp only [h.rows, if_neg (ltL n hW.n31 hi), nI_s]
    have e : ∀ f : Int32 → Option (Int32 ⊕ Int32), (∀ j, lwd (C c) i ≤ j → j < 63 → f (nI j) = if C c i = ((-9223372036854775808) : Int64) then some (.inr (nI j)) else if fitB j (C c i) = true then some (.inr (nI j)) else some (.inl (nI (j + 1)))) → f (nI 63) = some (.inr (nI 63)) → lp 5000 f (nI (lwd (C c) i)) = some (nI (lwd (C c) (i + 1))) := by
      intro f hf hx
      refine wp_val (wp_lpm (lwd (C c) i) 63 (fun j z => z = nI j ∧ ∀ x, lwd (C c) i ≤ x → x < j → C c i ≠ ((-9223372036854775808) : Int64) ∧ fitB x (C c i) = false) hl.2 (by decide) ⟨rfl, fun x h1 h2 => absurd h1 (by omega)⟩ (fun j z h1 h2 hJ => ?_) (fun z hJ => ?_))
      · obtain ⟨rfl, h3⟩ := hJ
        rw [hf j h1 h2]
        by_cases eN : C c i = ((-9223372036854775808) : Int64)
        · rw [if_pos eN]
          refine wp_some ?_
          show nI j = _
          have : j = lwd (C c) i := by
            refine Nat.le_antisymm (Nat.le_of_not_lt fun q => (h3 (lwd (C c) i) (Nat.le_refl _) q).1 eN) h1
          rw [lwd, if_pos eN, this]
        · rw [if_neg eN]
          cases e5 : fitB j (C c i) with
          | true =>
            simp only [Bool.false_and, Bool.and_false, Bool.and_self, Bool.true_and, Bool.and_true, Bool.false_eq_true, eq_self, if_true, if_false, reduceIte, ite_self]
            refine wp_some ?_
            show nI j = _
            rw [lwd, if_neg eN, wOf_max e5 hl.1 h1 (by omega) (fun x a b => (h3 x a b).2)]
          | false =>
            simp only [Bool.false_and, Bool.and_false, Bool.and_self, Bool.true_and, Bool.and_true, Bool.false_eq_true, eq_self, if_true, if_false, reduceIte, ite_self]
            refine wp_some ⟨rfl, fun x a b => ?_⟩
            by_cases ex : x = j
            · subst ex; exact ⟨eN, e5⟩
            · exact h3 x a (by omega)
      · obtain ⟨rfl, h3⟩ := hJ
        rw [hx]
        refine wp_some ?_
        show nI 63 = _
        by_cases eN : C c i = ((-9223372036854775808) : Int64)
        · have : 63 = lwd (C c) i := by
            refine Nat.le_antisymm (Nat.le_of_not_lt fun q => (h3 (lwd (C c) i) (Nat.le_refl _) q).1 eN) hl.2
          rw [lwd, if_pos eN, ← this]
        · rw [lwd, if_neg eN, wOf_max (fit63 hW hc hi eN) hl.1 hl.2 (Nat.le_refl _) (fun x a b => (h3 x a b).2)]
    rw [e _ ?_ ?_]
    · rfl
    · intro j h1 h2
      simp only [if_neg (show ¬ (63 : Int32) ≤ nI j from nI_ge (a := j) (b := 63) h2 (by decide)), ix6 hc6, ix192 hi2, Option.bind_some, h.cell hc hi, fits_eq σ (show 2 ≤ j by omega) (show j ≤ 63 by omega), if_bI, nI_s]
    · exact if_pos (show (63 : Int32) ≤ nI 63 by decide)
  · simp only [h.rows]
    exact if_pos (geL n hW.n31)
theorem widthOf_eq (u : St) {v : Int64} (hf : fitB 63 v = true) : m_X4_widthOf u v = some (nI (wOf v)) := by
  unfold m_X4_widthOf
  have key : ∀ j, 2 ≤ j → j ≤ 63 → m_X4_isIn u v (-((1 : Int64) <<< ((nI j - (1 : Int32)).toInt64 &&& 63))) (((1 : Int64) <<< ((nI j - (1 : Int32)).toInt64 &&& 63)) - (1 : Int64)) = some (bI (fitB j v)) := by
    intro j h2 h3
    have h0 : 0 < 2 ^ (j - 1) := Nat.pow_pos (by decide)
    have hT := most_T (j := j - 1) (by omega)
    have h1 := p2_62 (j := j - 1) (by omega)
    rw [show nI j - (1 : Int32) = nI (j - 1) from pk_sub (b := 1) (by omega), one_shl (by omega), isIn_eq]
    have e1 : (lN (2 ^ (j - 1)) - (1 : Int64)).toInt = ((2 ^ (j - 1) : Nat) : Int) - 1 := by
      rw [show (1 : Int64) = lN 1 from rfl, lN_sub h0, hT.1]
    have e2 : (-(lN (2 ^ (j - 1)))).toInt = -((2 ^ (j - 1) : Nat) : Int) := by
      rw [negT (by rw [pk_lT (by omega)]; omega), pk_lT (by omega)]
    rw [e1, e2]
    unfold rg fitB
    rw [show decide (v.toInt ≤ ((2 ^ (j - 1) : Nat) : Int) - 1) = decide (v.toInt < ((2 ^ (j - 1) : Nat) : Int)) from decide_eq_decide.mpr (by omega)]
  have fin : ∀ j, 2 ≤ j → j ≤ 63 → fitB j v = true → (∀ x, 2 ≤ x → x < j → fitB x v = false) → nI j = nI (wOf v) := fun j a b e h3 => by
    have := wOf_max e (Nat.le_refl 2) a b h3
    have h4 := (wOf_in v).1
    rw [show wOf v = j by omega]
  rw [show lp 5000 _ (2 : Int32) = _ from wp_val (wp_lpm (P := fun x => x = nI (wOf v)) 2 63 (fun j z => z = nI j ∧ ∀ x, 2 ≤ x → x < j → fitB x v = false) (by decide) (by decide) ⟨rfl, fun x a b => absurd a (by omega)⟩ (fun j z h1 h2 hJ => ?_) (fun z hJ => ?_))]
  · rfl
  · obtain ⟨rfl, h3⟩ := hJ
    simp only [key j h1 (by omega), Option.bind_some, if_bI, nI_s]
    cases e : fitB j v with
    | true =>
      simp only [Bool.false_and, Bool.and_false, Bool.and_self, Bool.true_and, Bool.and_true, Bool.false_eq_true, eq_self, if_true, if_false, reduceIte, ite_self]
      exact wp_some (fin j h1 (by omega) e h3)
    | false =>
      simp only [Bool.false_and, Bool.and_false, Bool.and_self, Bool.true_and, Bool.and_true, Bool.false_eq_true, eq_self, if_true, if_false, reduceIte, ite_self]
      refine wp_some ⟨rfl, fun x a b => ?_⟩
      by_cases ex : x = j
      · subst ex; exact e
      · exact h3 x a (by omega)
  · obtain ⟨rfl, h3⟩ := hJ
    simp only [key 63 (by decide) (by decide), Option.bind_some, if_bI, hf, Bool.false_and, Bool.and_false, Bool.and_self, Bool.true_and, Bool.and_true, Bool.false_eq_true, eq_self, if_true, if_false, reduceIte, ite_self]
    exact wp_some (fin 63 (by decide) (by decide) hf h3)
theorem mleastWidth_eq (h : RM n k w C M q J u) (hW : Wf n k w C M) (hc : c < k) : m_X4_leastWidth u (nI c) = some (nI (lwd (C c) n)) := by
  unfold m_X4_leastWidth
  have hc6 := hW.c6 hc
  rw [lp_g (fun i => (nI (lwd (C c) i), nI i)) n (nI (lwd (C c) n)) ?_ hW.n5 ?_ ?_]
  · rfl
  · rfl
  · intro i hi
    have hi2 := hW.r192 hi
    have hl := lwd_in (C c) i
    simp only [h.rows, if_neg (ltL n hW.n31 hi), at_eq, ixA hc6 hi2, Option.bind_some, h.has' hW hc hi, if_bI, nI_s]
    by_cases eN : C c i = ((-9223372036854775808) : Int64)
    · simp only [eN, bne_self_eq_false, Bool.false_and, Bool.and_false, Bool.and_self, Bool.true_and, Bool.and_true, Bool.false_eq_true, eq_self, if_true, if_false, reduceIte, ite_self, Option.bind_some]
      rw [lwd, if_pos eN]
    · have e4 : (C c i != ((-9223372036854775808) : Int64)) = true := by simpa using eN
      have hv := wOf_in (C c i)
      simp only [e4, Bool.false_and, Bool.and_false, Bool.and_self, Bool.true_and, Bool.and_true, Bool.false_eq_true, eq_self, if_true, if_false, reduceIte, ite_self, h.cell hc hi eN, widthOf_eq u (fit63 hW hc hi eN), Option.bind_some]
      rw [lwd, if_neg eN]
      by_cases e5 : wOf (C c i) ≤ lwd (C c) i
      · rw [if_pos (nI_le e5 (by omega)), Nat.max_eq_left e5]; rfl
      · rw [if_neg (nI_ge (by omega) (by omega)), Nat.max_eq_right (by omega)]; rfl
  · simp only [h.rows]
    exact if_pos (geL n hW.n31)
end FITM
