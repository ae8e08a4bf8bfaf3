/-! ===== acts: a column gets other numbers, all or none ===== -/
def colT (C : Nat → Nat → Int64) (c : Nat) (D : Nat → Int64) (i a b : Nat) : Int64 := if a = c ∧ b < i then D b else C a b
theorem colT_0 (C : Nat → Nat → Int64) (c : Nat) (D : Nat → Int64) : colT C c D 0 = C := by
  funext a b
  exact if_neg (by omega)
theorem colT_s (C : Nat → Nat → Int64) (c : Nat) (D : Nat → Int64) (i : Nat) : upC (colT C c D i) c i (D i) = colT C c D (i + 1) := by
  funext a b
  unfold upC colT
  by_cases e : a = c ∧ b = i
  · rw [if_pos e, if_pos (by omega), e.2]
  · rw [if_neg e]
    by_cases e2 : a = c ∧ b < i
    · rw [if_pos e2, if_pos (by omega)]
    · rw [if_neg e2, if_neg (by omega)]
theorem colT_e (C : Nat → Nat → Int64) (c : Nat) (D : Nat → Int64) (i : Nat) (h : D i = C c i) : colT C c D i = colT C c D (i + 1) := by
  funext a b
  unfold colT
  by_cases e : a = c ∧ b = i
  · rw [if_neg (by omega), if_pos (by omega), e.1, e.2, h]
  · by_cases e2 : a = c ∧ b < i
    · rw [if_pos e2, if_pos (by omega)]
    · rw [if_neg e2, if_neg (by omega)]
theorem colT_o (C : Nat → Nat → Int64) (c : Nat) (D : Nat → Int64) (i a : Nat) : colT C c D i a i = C a i := if_neg (by omega)
theorem colT_ne (C : Nat → Nat → Int64) {c : Nat} (D : Nat → Int64) (i : Nat) {a : Nat} (b : Nat) (h : a ≠ c) : colT C c D i a b = C a b := if_neg (fun q => h q.1)
def dP (C : Nat → Nat → Int64) (c : Nat) (p : Nat → Bool) (g : Nat → Int64) (r : Nat) : Int64 := if p r = true then g r else C c r
section ACT
variable {n k : Nat} {w : Nat → Nat} {C : Nat → Nat → Int64} {M : Nat → Nat → Bool} {q : Int32} {σ τ v u u' J : St} {c r m : Nat} {D : Nat → Int64} {p : Nat → Bool} {g : Nat → Int64} {I : Ims} {tbl : List String}
theorem Wf.colD (h : Wf n k w C M) (hD : ∀ r, r < n → D r = ((-9223372036854775808) : Int64) ∨ Fit (w c) (D r)) (i : Nat) : Wf n k w (colT C c D i) M := by
  refine ⟨h.1, h.2.1, h.2.2.1, fun a b ha hb => ?_, h.2.2.2.2⟩
  by_cases e : a = c ∧ b < i
  · rw [show colT C c D i a b = D b from if_pos e, e.1]; exact hD b hb
  · rw [show colT C c D i a b = C a b from if_neg e]; exact h.hf ha hb
theorem expect_eq (h : RC n k w C M q σ) (hW : Wf n k w C M) (hc : c < k) : wp (c_X3_expectAsItIs σ (nI c)) (fun τ => Oc 27 σ τ ∧ ∀ r, r < n → τ.2 27 r = C c r) := by
  unfold c_X3_expectAsItIs
  refine wp_bm (Q := fun τ => Oc 27 σ τ ∧ ∀ r, r < n → τ.2 27 r = C c r) (wp_lp n (fun i (z : Int32 × St) => z.1 = nI i ∧ Oc 27 σ z.2 ∧ ∀ r, r < i → z.2.2 27 r = C c r) hW.n5 ⟨rfl, Oc.rf, fun r h => absurd h (by omega)⟩ (fun i z hi hJ => ?_) (fun z hJ => ?_)) (fun τ h => wp_some h)
  · obtain ⟨z1, τ⟩ := z
    obtain ⟨hz, g1, g2⟩ := hJ
    simp only at hz g1 g2
    subst hz
    have hC' := h.oc (by decide) g1
    simp only [hC'.rows, if_neg (ltL n hW.n31 hi), ix6 (hW.c6 hc), ix192 (hW.r192 hi), Option.bind_some, hC'.cell hc hi, nI_s]
    refine wp_some ⟨rfl, g1.sL, fun r hr => ?_⟩
    show (sL τ 27 i (C c i)).2 27 r = _
    by_cases e : r = i
    · subst e; exact sLs
    · rw [sLn (by omega)]; exact g2 r (by omega)
  · obtain ⟨z1, τ⟩ := z
    obtain ⟨hz, g1, g2⟩ := hJ
    simp only at hz g1 g2
    subst hz
    have hC' := h.oc (by decide) g1
    simp only [hC'.rows]
    exact wp_eq (if_pos (geL n hW.n31)) ⟨g1, g2⟩
/-- the loop that makes what comes, with a count -/
theorem cact {f : Int32 × Int32 × St → Option ((Int32 × Int32 × St) ⊕ (Int32 × St))} (p : Nat → Bool) (g : Nat → Int64) (hW : Wf n k w C M) (hC : RC n k w C M q v) (hv : ∀ r, r < n → v.2 27 r = C c r) (hs : ∀ i a σ', i < n → RC n k w C M q σ' → f (a, nI i, σ') = some (.inl (if p i = true then (a + 1, nI (i + 1), sL σ' 27 i (g i)) else (a, nI (i + 1), σ')))) (hx : ∀ a σ', RC n k w C M q σ' → f (a, nI n, σ') = some (.inr (a, σ'))) : wp (lp 5000 f ((0 : Int32), (0 : Int32), v)) (fun z => z.1 = nI (fb_ct p n) ∧ RC n k w C M q z.2 ∧ ∀ r, r < n → z.2.2 27 r = dP C c p g r) := by
  refine wp_lp n (fun i (z : Int32 × Int32 × St) => z.1 = nI (fb_ct p i) ∧ z.2.1 = nI i ∧ RC n k w C M q z.2.2 ∧ (∀ r, r < i → z.2.2.2 27 r = dP C c p g r) ∧ ∀ r, i ≤ r → r < n → z.2.2.2 27 r = C c r) hW.n5 ⟨rfl, rfl, hC, fun r h => absurd h (by omega), fun r _ hr => hv r hr⟩ (fun i z hi hJ => ?_) (fun z hJ => ?_)
  · obtain ⟨z1, z2, τ⟩ := z
    obtain ⟨e1, e2, h1, h2, h3⟩ := hJ
    simp only at e1 e2 h1 h2 h3
    subst e1 e2
    refine wp_eq (hs i _ τ hi h1) ?_
    by_cases e : p i = true
    · rw [if_pos e]
      refine ⟨by show nI (fb_ct p i) + 1 = _; rw [nI_s, fb_ct_succ, e]; rfl, rfl, h1.sL (by decide), fun r hr => ?_, fun r h4 hr => ?_⟩
      · show (sL τ 27 i (g i)).2 27 r = _
        by_cases er : r = i
        · subst er; rw [sLs]; unfold dP; rw [if_pos e]
        · rw [sLn (by omega)]; exact h2 r (by omega)
      · show (sL τ 27 i (g i)).2 27 r = _
        rw [sLn (by omega)]; exact h3 r (by omega) hr
    · rw [if_neg e]
      rw [Bool.not_eq_true] at e
      refine ⟨by show nI (fb_ct p i) = _; rw [fb_ct_succ, e]; rfl, rfl, h1, fun r hr => ?_, fun r h4 hr => h3 r (by omega) hr⟩
      by_cases er : r = i
      · subst er
        show τ.2 27 r = _
        rw [h3 r (Nat.le_refl _) hi]; unfold dP; rw [e]; rfl
      · exact h2 r (by omega)
  · obtain ⟨z1, z2, τ⟩ := z
    obtain ⟨e1, e2, h1, h2, h3⟩ := hJ
    simp only at e1 e2 h1 h2 h3
    subst e1 e2
    exact wp_eq (hx _ τ h1) ⟨rfl, h1, h2⟩
/-- without a count -/
theorem cact0 {f : Int32 × St → Option ((Int32 × St) ⊕ St)} (p : Nat → Bool) (g : Nat → Int64) (hW : Wf n k w C M) (hC : RC n k w C M q v) (hv : ∀ r, r < n → v.2 27 r = C c r) (hs : ∀ i σ', i < n → RC n k w C M q σ' → f (nI i, σ') = some (.inl (nI (i + 1), if p i = true then sL σ' 27 i (g i) else σ'))) (hx : ∀ σ', RC n k w C M q σ' → f (nI n, σ') = some (.inr σ')) : wp (lp 5000 f ((0 : Int32), v)) (fun z => RC n k w C M q z ∧ ∀ r, r < n → z.2 27 r = dP C c p g r) := by
  refine wp_lp n (fun i (z : Int32 × St) => z.1 = nI i ∧ RC n k w C M q z.2 ∧ (∀ r, r < i → z.2.2 27 r = dP C c p g r) ∧ ∀ r, i ≤ r → r < n → z.2.2 27 r = C c r) hW.n5 ⟨rfl, hC, fun r h => absurd h (by omega), fun r _ hr => hv r hr⟩ (fun i z hi hJ => ?_) (fun z hJ => ?_)
  · obtain ⟨z2, τ⟩ := z
    obtain ⟨e2, h1, h2, h3⟩ := hJ
    simp only at e2 h1 h2 h3
    subst e2
    refine wp_eq (hs i τ hi h1) ?_
    by_cases e : p i = true
    · rw [if_pos e]
      refine ⟨rfl, h1.sL (by decide), fun r hr => ?_, fun r h4 hr => ?_⟩
      · show (sL τ 27 i (g i)).2 27 r = _
        by_cases er : r = i
        · subst er; rw [sLs]; unfold dP; rw [if_pos e]
        · rw [sLn (by omega)]; exact h2 r (by omega)
      · show (sL τ 27 i (g i)).2 27 r = _
        rw [sLn (by omega)]; exact h3 r (by omega) hr
    · rw [if_neg e]
      rw [Bool.not_eq_true] at e
      refine ⟨rfl, h1, fun r hr => ?_, fun r h4 hr => h3 r (by omega) hr⟩
      by_cases er : r = i
      · subst er
        show τ.2 27 r = _
        rw [h3 r (Nat.le_refl _) hi]; unfold dP; rw [e]; rfl
      · exact h2 r (by omega)
  · obtain ⟨z2, τ⟩ := z
    obtain ⟨e2, h1, h2, h3⟩ := hJ
    simp only at e2 h1 h2 h3
    subst e2
    exact wp_eq (hx τ h1) ⟨h1, h2⟩
def okD (w : Nat) (D : Nat → Int64) (n : Nat) : Bool := decide (∀ r, r < n → (D r == ((-9223372036854775808) : Int64) || fitB w (D r)) = true)
theorem come_wp (hC : RC n k w C M q σ) (hW : Wf n k w C M) (hc : c < k) (hD : ∀ r, r < n → σ.2 27 r = D r) : wp (c_X3_come σ (nI c)) (fun z => (okD (w c) D n = true ∧ ∃ τ, z = (.ok (nI (fb_ct (fun r => C c r != D r) n)), τ) ∧ RC n k w (colT C c D n) M q τ) ∨ (okD (w c) D n = false ∧ z = (.error "java/lang/ArithmeticException", sI σ 0 6 (σ.1 0 6 + 1)))) := by
  unfold c_X3_come
  have hc6 := hW.c6 hc
  have hw := hW.hw hc
  have fb : ∀ i, i ≤ n → Bool.and (decide (∀ r, r < i → (D r == ((-9223372036854775808) : Int64) || fitB (w c) (D r)) = true)) true = decide (∀ r, r < i → (D r == ((-9223372036854775808) : Int64) || fitB (w c) (D r)) = true) := fun i _ => Bool.and_true _
  refine wp_bm (Q := fun r => r = bI (okD (w c) D n)) (wp_lp n (fun i (z : Int32 × Int32) => ∃ b, z = (bI b, nI i) ∧ (b = true ↔ ∀ r, r < i → (D r == ((-9223372036854775808) : Int64) || fitB (w c) (D r)) = true)) hW.n5 ⟨true, rfl, ⟨fun _ r h => absurd h (by omega), fun _ => rfl⟩⟩ (fun i z hi hJ => ?_) (fun z hJ => ?_)) (fun r hr => ?_)
  · obtain ⟨b, rfl, hb⟩ := hJ
    simp only [hC.rows, if_neg (ltL n hW.n31 hi), if_bI, ix192 (hW.r192 hi), Option.bind_some, hD i hi, ix6 hc6, hC.wid hc, fits_eq σ hw.1 hw.2, nI_s]
    have fin : ∀ b' : Bool, b' = (b && (D i == ((-9223372036854775808) : Int64) || fitB (w c) (D i))) → lpP (fun z : Int32 × Int32 => ∃ b, z = (bI b, nI (i + 1)) ∧ (b = true ↔ ∀ r, r < i + 1 → (D r == ((-9223372036854775808) : Int64) || fitB (w c) (D r)) = true)) (fun r => r = bI (okD (w c) D n)) (.inl (bI b', nI (i + 1))) := fun b' e => by
      refine ⟨b', rfl, ?_⟩
      rw [e, Bool.and_eq_true, hb]
      exact ⟨fun h => lt_s h.1 h.2, fun h => ⟨fun r hr => h r (by omega), h i (by omega)⟩⟩
    cases b with
    | false =>
      simp only [Bool.false_and, Bool.and_false, Bool.and_self, Bool.true_and, Bool.and_true, Bool.false_eq_true, eq_self, if_true, if_false, reduceIte, ite_self, Option.bind_some]
      exact wp_some (fin false rfl)
    | true =>
      simp only [Bool.false_and, Bool.and_false, Bool.and_self, Bool.true_and, Bool.and_true, Bool.false_eq_true, eq_self, if_true, if_false, reduceIte, ite_self]
      by_cases e1 : D i = ((-9223372036854775808) : Int64)
      · rw [if_pos e1]
        exact wp_some (fin true (by rw [e1]; simp))
      · rw [if_neg e1]
        have : (D i == ((-9223372036854775808) : Int64)) = false := by simpa using e1
        cases e2 : fitB (w c) (D i) with
        | false =>
          simp only [Bool.false_and, Bool.and_false, Bool.and_self, Bool.true_and, Bool.and_true, Bool.false_eq_true, eq_self, if_true, if_false, reduceIte, ite_self, Option.bind_some]
          exact wp_some (fin false (by rw [this, e2]; rfl))
        | true =>
          simp only [Bool.false_and, Bool.and_false, Bool.and_self, Bool.true_and, Bool.and_true, Bool.false_eq_true, eq_self, if_true, if_false, reduceIte, ite_self, Option.bind_some]
          exact wp_some (fin true (by rw [this, e2]; rfl))
  · obtain ⟨b, rfl, hb⟩ := hJ
    simp only [hC.rows]
    refine wp_eq (if_pos (geL n hW.n31)) ?_
    show bI b = bI (okD (w c) D n)
    unfold okD
    congr 1
    rw [Bool.eq_iff_iff, decide_eq_true_eq]
    exact hb
  · subst hr
    rw [needAct_eq, xB_if]
    cases hok : okD (w c) D n with
    | false =>
      simp only [Bool.false_and, Bool.and_false, Bool.and_self, Bool.true_and, Bool.and_true, Bool.false_eq_true, eq_self, if_true, if_false, reduceIte, ite_self]
      exact wp_some (Or.inr ⟨trivial, rfl⟩)
    | true =>
      simp only [Bool.false_and, Bool.and_false, Bool.and_self, Bool.true_and, Bool.and_true, Bool.false_eq_true, eq_self, if_true, if_false, reduceIte, ite_self]
      have hk := hW.hk
      refine wp_bm (Q := fun z => z.1 = nI (fb_ct (fun r => C c r != D r) n) ∧ RC n k w (colT C c D n) M q z.2) (wp_lp n (fun i (z : Int32 × Int32 × St) => z.1 = nI (fb_ct (fun r => C c r != D r) i) ∧ z.2.1 = nI i ∧ RC n k w (colT C c D i) M q z.2.2 ∧ ∀ r, r < n → z.2.2.2 27 r = D r) hW.n5 ⟨rfl, rfl, by rw [colT_0]; exact hC, hD⟩ (fun i z hi hJ => ?_) (fun z hJ => ?_)) (fun z hz => ?_)
      · obtain ⟨z1, z2, τ⟩ := z
        obtain ⟨e1, e2, h1, h2⟩ := hJ
        simp only at e1 e2 h1 h2
        subst e1 e2
        have ec : τ.2 (4 + c) i = C c i := by rw [h1.cell hc hi, colT_o]
        simp only [h1.rows, if_neg (ltL n hW.n31 hi), ix6 hc6, ix192 (hW.r192 hi), Option.bind_some, ec, h2 i hi, s01, nI_s]
        refine wp_some ⟨?_, rfl, ?_, fun r hr => ?_⟩
        · show nI _ + bI _ = _
          rw [bI_nI, nI_add, fb_ct_succ]
          by_cases e : C c i = D i
          · simp [e]
          · have : (C c i != D i) = true := by simpa using e
            simp [e, this]
        · rw [← colT_s]
          exact rc_set h1 hc
        · show (sL τ (4 + c) i (D i)).2 27 r = _
          rw [sLn (by omega)]; exact h2 r hr
      · obtain ⟨z1, z2, τ⟩ := z
        obtain ⟨e1, e2, h1, h2⟩ := hJ
        simp only at e1 e2 h1 h2
        subst e1 e2
        simp only [h1.rows]
        exact wp_eq (if_pos (geL n hW.n31)) ⟨rfl, h1⟩
      · obtain ⟨z1, τ⟩ := z
        obtain ⟨e1, h1⟩ := hz
        simp only at e1
        subst e1
        exact wp_some (Or.inl ⟨trivial, τ, rfl, h1⟩)
theorem okD_wf (hW : Wf n k w C M) (h : okD (w c) D n = true) (i : Nat) : Wf n k w (colT C c D i) M := hW.colD (fun r hr => by
  have := of_decide_eq_true h r hr
  rw [Bool.or_eq_true] at this
  rcases this with q | q
  · exact Or.inl (by simpa using q)
  · exact Or.inr (fitB_t.mp q)) i
/-! the reference's side -/
theorem begins_wp (hM : RM n k w C M q J u) (ht : u.1 0 0 = 0) : wp (m_X4_begins u) (fun v => RM n k w C M q J v ∧ v.1 0 0 = 0 ∧ v.1 0 14 = 0 ∧ ∀ r, r < 192 → v.1 9 r = 0) := by
  unfold m_X4_begins
  refine wp_bm (Q := fun v => RM n k w C M q J v ∧ v.1 0 0 = 0 ∧ v.1 0 14 = 0 ∧ ∀ r, r < 192 → v.1 9 r = 0) (wp_lp 192 (fun i (z : Int32 × St) => z.1 = nI i ∧ RM n k w C M q J z.2 ∧ z.2.1 0 0 = 0 ∧ z.2.1 0 14 = 0 ∧ ∀ r, r < i → z.2.1 9 r = 0) (by decide) ⟨rfl, hM.sI0 (Or.inr (by decide)), by rw [sIn (by omega)]; exact ht, sIs, fun r h => absurd h (by omega)⟩ (fun i z hi hJ => ?_) (fun z hJ => ?_)) (fun τ h => wp_some h)
  · obtain ⟨z1, τ⟩ := z
    obtain ⟨hz, g1, g2, g3, g4⟩ := hJ
    simp only at hz g1 g2 g3 g4
    subst hz
    simp only [if_neg (lt192 hi), ix192 hi, Option.bind_some, nI_s, nz_0]
    refine wp_some ⟨rfl, g1.sIx (by decide) (by decide), g2, g3, fun r hr => ?_⟩
    show (sI τ 9 i (bI false)).1 9 r = _
    by_cases e : r = i
    · subst e; exact sIs
    · rw [sIn (by omega)]; exact g4 r (by omega)
  · obtain ⟨z1, τ⟩ := z
    obtain ⟨hz, g1, g2, g3, g4⟩ := hJ
    simp only at hz g1 g2 g3 g4
    subst hz
    exact wp_eq (if_pos ge192) ⟨g1, g2, g3, g4⟩
def mLay (u : St) (i : Nat) (v : Int64) : St := sL (sI u 9 i (bI true)) 8 i v
theorem lays_eq (h : RM n k w C M q J u) (hW : Wf n k w C M) (hc : c < k) (hr : r < 192) (v : Int64) : m_X4_lays u (nI c) (nI r) v = some (if fitB (w c) v = true then mLay u r v else mLay (sI u 0 14 1) r v) := by
  unfold m_X4_lays
  rw [mfits_eq h hW hc, Option.bind_some, if_bI, ix192 hr, nz_1]
  cases fitB (w c) v <;> rfl
/-- one row's step: nothing, a number that fits, one that doesn't -/
def stepM (w : Nat) (p : Nat → Bool) (g : Nat → Int64) (i : Nat) (u u' : St) : Prop := (p i = false ∧ u' = u) ∨ (p i = true ∧ fitB w (g i) = true ∧ u' = mLay u i (g i)) ∨ (p i = true ∧ fitB w (g i) = false ∧ (u' = sI u 0 14 1 ∨ ∃ v, u' = mLay (sI u 0 14 1) i v))
theorem mact {f : Int32 × St → Option ((Int32 × St) ⊕ St)} (p : Nat → Bool) (g : Nat → Int64) (hW : Wf n k w C M) (hM : RM n k w C M q J u) (ht : u.1 0 0 = 0) (h14 : u.1 0 14 = 0) (h9 : ∀ r, r < 192 → u.1 9 r = 0) (hs : ∀ i u', i < n → RM n k w C M q J u' → wp (f (nI i, u')) (fun o => ∃ u'', o = .inl (nI (i + 1), u'') ∧ stepM (w c) p g i u' u'')) (hx : ∀ u', RM n k w C M q J u' → f (nI n, u') = some (.inr u')) : wp (lp 5000 f ((0 : Int32), u)) (fun u' => RM n k w C M q J u' ∧ u'.1 0 0 = 0 ∧ ((u'.1 0 14 = 0 ∧ (∀ r, r < n → p r = true → fitB (w c) (g r) = true) ∧ ∀ r, r < n → u'.1 9 r = bI (p r) ∧ (p r = true → u'.2 8 r = g r)) ∨ (¬ u'.1 0 14 = 0 ∧ ¬ ∀ r, r < n → p r = true → fitB (w c) (g r) = true))) := by
  refine wp_lp n (fun i (z : Int32 × St) => z.1 = nI i ∧ RM n k w C M q J z.2 ∧ z.2.1 0 0 = 0 ∧ (∀ r, i ≤ r → r < 192 → z.2.1 9 r = 0) ∧ ((z.2.1 0 14 = 0 ∧ (∀ r, r < i → p r = true → fitB (w c) (g r) = true) ∧ ∀ r, r < i → z.2.1 9 r = bI (p r) ∧ (p r = true → z.2.2 8 r = g r)) ∨ (¬ z.2.1 0 14 = 0 ∧ ¬ ∀ r, r < i → p r = true → fitB (w c) (g r) = true))) hW.n5 ⟨rfl, hM, ht, fun r _ hr => h9 r hr, Or.inl ⟨h14, fun r h => absurd h (by omega), fun r h => absurd h (by omega)⟩⟩ (fun i z hi hJ => ?_) (fun z hJ => ?_)
  · obtain ⟨z1, u'⟩ := z
    obtain ⟨hz, g1, g2, g3, g4⟩ := hJ
    simp only at hz g1 g2 g3 g4
    subst hz
    refine wp_mono (hs i u' hi g1) ?_
    have hi2 := hW.r192 hi
    rintro o ⟨u'', rfl, hst⟩
    rcases hst with ⟨e, rfl⟩ | ⟨e, ef, rfl⟩ | ⟨e, ef, hu⟩
    · refine ⟨rfl, g1, g2, fun r h1 h2 => g3 r (by omega) h2, ?_⟩
      rcases g4 with ⟨a1, a2, a3⟩ | ⟨a1, a2⟩
      · refine Or.inl ⟨a1, lt_s a2 (fun q => by rw [e] at q; cases q), lt_s a3 ⟨?_, fun q => by rw [e] at q; cases q⟩⟩
        rw [e]; exact g3 i (Nat.le_refl _) hi2
      · exact Or.inr ⟨a1, fun q => a2 (fun r hr => q r (by omega))⟩
    · refine ⟨rfl, (g1.sIx (by decide) (by decide)).sLx (by decide) (by decide), g2, fun r h1 h2 => ?_, ?_⟩
      · show (sI u' 9 i (bI true)).1 9 r = _
        rw [sIn (by omega)]; exact g3 r (by omega) h2
      rcases g4 with ⟨a1, a2, a3⟩ | ⟨a1, a2⟩
      · refine Or.inl ⟨a1, lt_s a2 (fun _ => ef), fun r hr => ?_⟩
        show (sI u' 9 i (bI true)).1 9 r = _ ∧ (_ → (sL _ 8 i (g i)).2 8 r = _)
        by_cases er : r = i
        · subst er
          rw [sIs, sLs, e]; exact ⟨rfl, fun _ => rfl⟩
        · rw [sIn (by omega), sLn (by omega)]; exact a3 r (by omega)
      · exact Or.inr ⟨a1, fun q => a2 (fun r hr => q r (by omega))⟩
    · have no : ¬ ∀ r, r < i + 1 → p r = true → fitB (w c) (g r) = true := fun q => by
        rw [q i (by omega) e] at ef; cases ef
      have one : ∀ x : St, ¬ (sI x 0 14 1).1 0 14 = 0 := fun x => by rw [sIs]; decide
      rcases hu with rfl | ⟨v, rfl⟩
      · refine ⟨rfl, g1.sI0 (Or.inr (by decide)), by rw [show (nI (i + 1), sI u' 0 14 1).2.1 0 0 = (sI u' 0 14 1).1 0 0 from rfl, sIn (by omega)]; exact g2, fun r h1 h2 => g3 r (by omega) h2, Or.inr ⟨one u', no⟩⟩
      · refine ⟨rfl, ((g1.sI0 (Or.inr (by decide))).sIx (by decide) (by decide)).sLx (by decide) (by decide), ?_, fun r h1 h2 => ?_, Or.inr ⟨?_, no⟩⟩
        · show (sI (sI u' 0 14 1) 9 i (bI true)).1 0 0 = 0
          rw [sIn (by omega), sIn (by omega)]; exact g2
        · show (sI (sI u' 0 14 1) 9 i (bI true)).1 9 r = 0
          rw [sIn (by omega), sIn (by omega)]; exact g3 r (by omega) h2
        · show ¬ (sI (sI u' 0 14 1) 9 i (bI true)).1 0 14 = 0
          rw [sIn (by omega)]; exact one u'
  · obtain ⟨z1, u'⟩ := z
    obtain ⟨hz, g1, g2, g3, g4⟩ := hJ
    simp only at hz g1 g2 g3 g4
    subst hz
    exact wp_eq (hx u' g1) ⟨g1, g2, g4⟩
theorem done_wp (hM : RM n k w C M q J u) (hW : Wf n k w C M) (hc : c < k) (ht : u.1 0 0 = 0) (h14 : u.1 0 14 = 0) (hf : ∀ r, r < n → p r = true → fitB (w c) (g r) = true) (h9 : ∀ r, r < n → u.1 9 r = bI (p r) ∧ (p r = true → u.2 8 r = g r)) (a : Int32) : wp (m_X4_done u (nI c) a) (fun z => z.1 = nI (fb_ct p n) ∧ z.2.1 0 0 = 0 ∧ RM n k w (colT C c (dP C c p g) n) M q J z.2) := by
  unfold m_X4_done
  rw [if_pos h14]
  have hc6 := hW.c6 hc
  have hn := hW.hn
  refine wp_bm (Q := fun z => z.1 = nI (fb_ct p n) ∧ z.2.1 0 0 = 0 ∧ RM n k w (colT C c (dP C c p g) n) M q J z.2) (wp_lp n (fun i (z : Int32 × Int32 × St) => z.1 = nI (fb_ct p i) ∧ z.2.1 = nI i ∧ z.2.2.1 0 0 = 0 ∧ RM n k w (colT C c (dP C c p g) i) M q J z.2.2 ∧ ∀ r, r < n → z.2.2.1 9 r = bI (p r) ∧ (p r = true → z.2.2.2 8 r = g r)) hW.n5 ⟨rfl, rfl, ht, by rw [colT_0]; exact hM, h9⟩ (fun i z hi hJ => ?_) (fun z hJ => ?_)) (fun z hz => ?_)
  · obtain ⟨z1, z2, v⟩ := z
    obtain ⟨e1, e2, h0, h1, h2⟩ := hJ
    simp only at e1 e2 h0 h1 h2
    subst e1 e2
    have hi2 := hW.r192 hi
    simp only [h1.rows, if_neg (ltL n hW.n31 hi), ix192 hi2, Option.bind_some, (h2 i hi).1, if_bI, at_eq, ixA hc6 hi2, nz_1, nI_s]
    cases e : p i with
    | false =>
      simp only [Bool.false_and, Bool.and_false, Bool.and_self, Bool.true_and, Bool.and_true, Bool.false_eq_true, eq_self, if_true, if_false, reduceIte, ite_self, Option.bind_some]
      refine wp_some ⟨by show nI _ = _; rw [fb_ct_succ, e]; rfl, rfl, h0, ?_, h2⟩
      rw [← colT_e C c (dP C c p g) i (by unfold dP; rw [e]; rfl)]
      exact h1
    | true =>
      simp only [Bool.false_and, Bool.and_false, Bool.and_self, Bool.true_and, Bool.and_true, Bool.false_eq_true, eq_self, if_true, if_false, reduceIte, ite_self, Option.bind_some, (h2 i hi).2 e]
      refine wp_some ⟨by show nI _ = _; rw [fb_ct_succ, e]; rfl, rfl, h0, ?_, fun r hr => ?_⟩
      · rw [← colT_s]
        have eg : dP C c p g i = g i := by unfold dP; rw [e]; rfl
        rw [eg]
        exact h1.setCell hi hn (fit_N (hW.hw hc).2 (hf i hi e))
      · exact h2 r hr
  · obtain ⟨z1, z2, v⟩ := z
    obtain ⟨e1, e2, h0, h1, h2⟩ := hJ
    simp only at e1 e2 h0 h1 h2
    subst e1 e2
    simp only [h1.rows]
    exact wp_eq (if_pos (geL n hW.n31)) ⟨rfl, h0, h1⟩
  · exact wp_some hz
theorem done_no (ht : ¬ u.1 0 14 = 0) (a b : Int32) : m_X4_done u a b = some ((0 : Int32), sI (sI u 0 7 (u.1 0 7 + 1)) 0 0 b) := by
  unfold m_X4_done
  rw [if_neg ht]
  rfl
/-- all together: an act whose numbers come under a property -/
theorem okD_dP (hW : Wf n k w C M) (hc : c < k) (hN : ∀ r, r < n → p r = true → fitB (w c) (g r) = false → g r ≠ ((-9223372036854775808) : Int64)) : okD (w c) (dP C c p g) n = true ↔ ∀ r, r < n → p r = true → fitB (w c) (g r) = true := by
  unfold okD
  rw [decide_eq_true_eq]
  constructor
  · intro h r hr e
    have := h r hr
    unfold dP at this
    rw [if_pos e, Bool.or_eq_true] at this
    cases ef : fitB (w c) (g r)
    · rw [ef] at this
      rcases this with q | q
      · exact absurd (by simpa using q) (hN r hr e ef)
      · exact q
    · rfl
  · intro h r hr
    unfold dP
    cases e : p r with
    | true =>
      rw [if_pos rfl, h r hr e, Bool.or_true]
    | false =>
      rw [if_neg (by decide), Bool.or_eq_true]
      rcases hW.hf hc hr with q | q
      · left; rw [q]; simp
      · right; exact fitB_t.mpr q
end ACT
/-- the end of an act that counts all its numbers -/
theorem act_end {n k : Nat} {w : Nat → Nat} {C : Nat → Nat → Int64} {M : Nat → Nat → Bool} {q : Int32} {J u : St} {c : Nat} {p : Nat → Bool} {g : Nat → Int64} {I : Ims} {tbl : List String} (hW : Wf n k w C M) (hI : ImR I J) (hc : c < k) (j : Nat) (htb : tbl[j]? = some "java/lang/ArithmeticException") {z : Int32 × St} (hz : z.1 = nI (fb_ct p n) ∧ RC n k w C M q z.2 ∧ ∀ r, r < n → z.2.2 27 r = dP C c p g r) (hN : ∀ r, r < n → p r = true → fitB (w c) (g r) = false → g r ≠ ((-9223372036854775808) : Int64)) (hu : RM n k w C M q J u ∧ u.1 0 0 = 0 ∧ ((u.1 0 14 = 0 ∧ (∀ r, r < n → p r = true → fitB (w c) (g r) = true) ∧ ∀ r, r < n → u.1 9 r = bI (p r) ∧ (p r = true → u.2 8 r = g r)) ∨ (¬ u.1 0 14 = 0 ∧ ¬ ∀ r, r < n → p r = true → fitB (w c) (g r) = true))) : Agr tbl (Rl I) (xB (c_X3_come z.2 (nI c)) fun _ s => some (.ok z.1, s)) ((m_X4_done u (nI c) (nI (j + 1))).bind fun v => some (v.1, v.2)) := by
  obtain ⟨z1, σ'⟩ := z
  obtain ⟨e1, hC', hD⟩ := hz
  simp only at e1 hC' hD
  subst e1
  obtain ⟨y, ey, hy⟩ := come_wp hC' hW hc hD
  rw [ey]
  obtain ⟨hM', ht', hu⟩ := hu
  rcases hu with ⟨a1, a2, a3⟩ | ⟨a1, a2⟩
  · rcases hy with ⟨b1, τ, rfl, b2⟩ | ⟨b1, rfl⟩
    · obtain ⟨⟨d1, u1⟩, ed, d2, d3, d4⟩ := done_wp hM' hW hc ht' a1 a2 a3 (nI (j + 1))
      simp only at d2 d3 d4
      subst d2
      rw [ed]
      exact Agr.ok (okD_wf hW b1 n) hI rfl rfl d3 b2 d4
    · rw [(okD_dP hW hc hN).mpr a2] at b1; cases b1
  · rcases hy with ⟨b1, τ, rfl, b2⟩ | ⟨b1, rfl⟩
    · exact absurd ((okD_dP hW hc hN).mp b1) a2
    · rw [done_no a1]
      exact Agr.act hW hI j rfl rfl htb hC' hM'
