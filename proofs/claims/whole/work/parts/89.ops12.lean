/-! ===== the operations that sum ===== -/
def fS (p : Nat → Bool) (g : Nat → Int) (r : Nat) : Int := if p r = true then g r else 0
theorem fS_t {p : Nat → Bool} {g : Nat → Int} {i : Nat} (h : p i = true) (z : Int) (hz : z = fb_si (fS p g) i) : z + g i = fb_si (fS p g) (i + 1) := by
  rw [hz, fb_si_succ]
  unfold fS
  rw [if_pos h]
theorem fS_f {p : Nat → Bool} {g : Nat → Int} {i : Nat} (h : ¬ p i = true) : fb_si (fS p g) i = fb_si (fS p g) (i + 1) := by
  rw [fb_si_succ]
  have : fS p g i = 0 := if_neg h
  rw [this, Int.add_zero]
theorem Wd_up {τ : St} {z : Int} {a b : Nat} (h : Wd τ z a) (hab : a ≤ b) : Wd τ z b := by
  obtain ⟨a0, a1, a2, a3, a4⟩ := h
  exact ⟨a0, a1, a2, by omega, a4⟩
theorem mB_up {v : St} {a b t : Int} (h : mB v a t) (hab : a ≤ b) : mB v b t := by
  obtain ⟨a0, a1, a2, a3, a4, a5⟩ := h
  exact ⟨by omega, by omega, by omega, by omega, by omega, a5⟩
section SUMS
variable {n k : Nat} {w : Nat → Nat} {C : Nat → Nat → Int64} {M : Nat → Nat → Bool} {q : Int32} {σ u J : St} {c m e : Nat} {I : Ims} {tbl : List String}
/-- the class's sum over rows below e -/
theorem csum_wp (h : RC n k w C M q σ) (hW : Wf n k w C M) (hc : c < k) (hm : m < 8) (he : e ≤ n) {f : Int32 × St → Option ((Int32 × St) ⊕ St)} (hs : ∀ i τ, i < e → RC n k w C M q τ → f (nI i, τ) = if (C c i != ((-9223372036854775808) : Int64) && M m i) = true then (c_X2_include τ (C c i)).bind fun t => some (.inl (nI (i + 1), t)) else some (.inl (nI (i + 1), τ))) (hx : ∀ τ, f (nI e, τ) = some (.inr τ)) : wp (lp 5000 f ((0 : Int32), fL σ 25 0 (fun _ => 0) 4)) (fun τ => RC n k w C M q τ ∧ Wd τ (fb_si (fS (fun r => C c r != ((-9223372036854775808) : Int64) && M m r) (fun r => (C c r).toInt)) e) 400) := by
  have hn := hW.hn
  refine wp_mono (P := fun τ => RC n k w C M q τ ∧ Wd τ (fb_si (fS (fun r => C c r != ((-9223372036854775808) : Int64) && M m r) (fun r => (C c r).toInt)) e) (2 * e)) (wp_lp e (fun i (z : Int32 × St) => z.1 = nI i ∧ RC n k w C M q z.2 ∧ Wd z.2 (fb_si (fS (fun r => C c r != ((-9223372036854775808) : Int64) && M m r) (fun r => (C c r).toInt)) i) (2 * i)) (by omega) ⟨rfl, show RC n k w C M q (fL σ 25 0 (fun _ => 0) 4) from h.oc (i := 25) (by decide) fL_oc, Wd_0 σ⟩ (fun i z hi hJ => ?_) (fun z hJ => ?_)) (fun τ hτ => ⟨hτ.1, ?_⟩)
  · obtain ⟨z1, τ⟩ := z
    obtain ⟨e1, h1, h2⟩ := hJ
    simp only at e1 h1 h2
    subst e1
    rw [hs i τ hi h1]
    by_cases p : (C c i != ((-9223372036854775808) : Int64) && M m i) = true
    · rw [if_pos p]
      refine wp_bm (wInc_wp h2 (by omega)) (fun τ2 h3 => wp_some ⟨rfl, h1.oc (i := 25) (by decide) h3.1, ?_⟩)
      have := h3.2
      rw [fS_t (p := fun r => C c r != ((-9223372036854775808) : Int64) && M m r) (g := fun r => (C c r).toInt) p _ rfl] at this
      exact this
    · rw [if_neg p]
      refine wp_some ⟨rfl, h1, ?_⟩
      show Wd τ _ _
      rw [← fS_f (p := fun r => C c r != ((-9223372036854775808) : Int64) && M m r) p]
      exact Wd_up h2 (by omega)
  · obtain ⟨z1, τ⟩ := z
    obtain ⟨e1, h1, h2⟩ := hJ
    simp only at e1 h1 h2
    subst e1
    exact wp_eq (hx τ) ⟨h1, h2⟩
  · exact Wd_up hτ.2 (by omega)
/-- the reference's -/
theorem msum_wp (h : RM n k w C M q J u) (hW : Wf n k w C M) (hc : c < k) (ht : u.1 0 0 = 0) (hB : mB u 0 0) (hz : mV u = 0) (he : e ≤ n) {f : Int32 × St → Option ((Int32 × St) ⊕ St)} (hs : ∀ i v, i < e → RM n k w C M q J v → f (nI i, v) = if (C c i != ((-9223372036854775808) : Int64) && M m i) = true then (m_X4_adds v (C c i) 1).bind fun t => some (.inl (nI (i + 1), t)) else some (.inl (nI (i + 1), v))) (hx : ∀ v, RM n k w C M q J v → f (nI e, v) = some (.inr v)) : wp (lp 5000 f ((0 : Int32), u)) (fun v => RM n k w C M q J v ∧ v.1 0 0 = 0 ∧ mB v 500000000000000000 0 ∧ mV v = fb_si (fS (fun r => C c r != ((-9223372036854775808) : Int64) && M m r) (fun r => (C c r).toInt)) e) := by
  have hn := hW.hn
  refine wp_lp e (fun i (z : Int32 × St) => z.1 = nI i ∧ RM n k w C M q J z.2 ∧ z.2.1 0 0 = 0 ∧ mB z.2 (2533274790395904 * (i : Int)) 0 ∧ mV z.2 = fb_si (fS (fun r => C c r != ((-9223372036854775808) : Int64) && M m r) (fun r => (C c r).toInt)) i) (by omega) ⟨rfl, h, ht, by simpa using hB, by simpa [fb_si] using hz⟩ (fun i z hi hJ => ?_) (fun z hJ => ?_)
  · obtain ⟨z1, v⟩ := z
    obtain ⟨e1, h1, h0, h2, h3⟩ := hJ
    simp only at e1 h1 h0 h2 h3
    subst e1
    rw [hs i v hi h1]
    by_cases p : (C c i != ((-9223372036854775808) : Int64) && M m i) = true
    · rw [if_pos p]
      have b := cell_in hW hc (show i < n by omega) (nbN (Bool.and_eq_true_iff.mp p).1)
      refine wp_bm (adds_wp h2 (by omega) (C c i) 1 (by omega) (by decide)) (fun v2 g => wp_some ⟨rfl, h1.oc (i := 7) (by decide) g.1, ?_, ?_, ?_⟩)
      · show v2.1 0 0 = 0
        rw [(g.1 0 (by decide)).1]; exact h0
      · have := g.2.1
        rw [show 2533274790395904 * ((i + 1 : Nat) : Int) = 2533274790395904 * (i : Int) + 2533274790395904 by omega]
        exact this
      · show mV v2 = _
        rw [g.2.2, L_1, Int.mul_one, h3]
        exact fS_t (p := fun r => C c r != ((-9223372036854775808) : Int64) && M m r) (g := fun r => (C c r).toInt) p _ rfl
    · rw [if_neg p]
      refine wp_some ⟨rfl, h1, h0, ?_, ?_⟩
      · exact mB_up h2 (by omega)
      · show mV v = _
        rw [← fS_f (p := fun r => C c r != ((-9223372036854775808) : Int64) && M m r) p]; exact h3
  · obtain ⟨z1, v⟩ := z
    obtain ⟨e1, h1, h0, h2, h3⟩ := hJ
    simp only at e1 h1 h0 h2 h3
    subst e1
    refine wp_eq (hx v h1) ⟨h1, h0, ?_, h3⟩
    exact mB_up h2 (by omega)
/-- sum of the rows below e: both -/
theorem sumTo_end (hW : Wf n k w C M) (hI : ImR I J) (hC : RC n k w C M q σ) (hM : RM n k w C M q J u) (ht : u.1 0 0 = 0) (hc : c < k) (hm : m < 8) (he : e ≤ n) (last : Int32) (hlast : ∀ i, i ≤ e → (last < nI i ↔ e ≤ i)) : Agr ["java/lang/IndexOutOfBoundsException", "java/lang/ArithmeticException"] (Rl I) (xB (c_X3_sumUpTo σ (nI c) (nI m) (nI e)) fun v s => some (.ok v, s)) ((m_X4_sumTo u (nI c) last (nI m)).bind fun v => some (v.1, v.2)) := by
  unfold c_X3_sumUpTo m_X4_sumTo
  have hc6 := hW.c6 hc
  have hn := hW.hn
  rw [wRestart_eq, Option.bind_some]
  have hcs : wp _ _ := csum_wp (e := e) hC hW hc hm he (f := fun (s3 : Int32 × St) => (if nI e ≤ s3.1 then some (.inr s3.2) else (if s3.2.1 1 0 ≤ s3.1 then some (.inr s3.2) else ((c_X1_isNumbered s3.2 (nI c) s3.1 (nI m)).bind fun v12 => ((if v12 = 0 then some s3.2 else ((ix (nI c) 6).bind fun j18 => ((ix s3.1 192).bind fun j20 => ((c_X2_include s3.2 (s3.2.2 (4 + j18) j20)).bind fun v22 => some v22)))).bind fun (t14 : St) => some (.inl ((s3.1 + 1), t14))))))) (fun i τ hi hC' => by
      have hi' : i < n := by omega
      simp only [if_neg (ltL e (by omega) hi), hC'.rows, if_neg (ltL n hW.n31 hi'), isNumbered_eq hC' hW hc hi' hm, Option.bind_some, if_bI]
      by_cases p : (C c i != ((-9223372036854775808) : Int64) && M m i) = true
      · rw [if_pos p, if_pos p, ix6 hc6, Option.bind_some, ix192 (hW.r192 hi'), Option.bind_some, hC'.cell hc hi', nI_s i]
        cases c_X2_include τ (C c i) <;> rfl
      · rw [if_neg p, if_neg p, Option.bind_some, nI_s i]) (fun τ => if_pos (geL e (by omega)))
  obtain ⟨τ, eτ, hτ⟩ := hcs
  rw [eτ, Option.bind_some]
  obtain ⟨u1, eu1, ho1, hB1, hz1⟩ := noSum_wp u
  rw [eu1, Option.bind_some]
  have hM1 := hM.oc (i := 7) (by decide) ho1
  have ht1 : u1.1 0 0 = 0 := by rw [(ho1 0 (by decide)).1]; exact ht
  have hms : wp _ _ := msum_wp (e := e) (m := m) hM1 hW hc ht1 hB1 hz1 he (f := fun (s3 : Int32 × St) => (if last < s3.1 then some (.inr s3.2) else ((m_X4_hasUnder s3.2 (nI c) s3.1 (nI m)).bind fun v11 => ((if v11 = 0 then some s3.2 else ((m_X4_at s3.2 (nI c) s3.1).bind fun v17 => ((ix v17 1152).bind fun j19 => ((m_X4_adds s3.2 (s3.2.2 1 j19) (1 : Int64)).bind fun v21 => some v21)))).bind fun (t13 : St) => some (.inl ((s3.1 + 1), t13)))))) (fun i v hi hM' => by
      have hi' : i < n := by omega
      have hi2 := hW.r192 hi'
      simp only [if_neg (fun z => absurd ((hlast i (by omega)).mp z) (by omega) : ¬ last < nI i), hasUnder_eq hM' hW hc hi2 hm, Option.bind_some, if_bI]
      by_cases p : (C c i != ((-9223372036854775808) : Int64) && M m i) = true
      · rw [if_pos p, if_pos p, at_eq, Option.bind_some, ixA hc6 hi2, Option.bind_some, hM'.cell hc hi' (nbN (Bool.and_eq_true_iff.mp p).1), nI_s i]
        cases m_X4_adds v (C c i) 1 <;> rfl
      · rw [if_neg p, if_neg p, Option.bind_some, nI_s i]) (fun v _ => if_pos ((hlast e (Nat.le_refl _)).mpr (Nat.le_refl _)))
  obtain ⟨v, ev, hv⟩ := hms
  rw [ev, Option.bind_some]
  have := sum_end (tbl := ["java/lang/IndexOutOfBoundsException", "java/lang/ArithmeticException"]) hW hI hτ.1 hτ.2 hv.1 hv.2.1 hv.2.2.1 hv.2.2.2 (by decide) (by decide) 1 rfl
  rcases this with ⟨b, u2, e2, h2⟩
  obtain ⟨b', hb', hb''⟩ := bd e2
  refine ⟨b, u2, ?_, ?_⟩
  · rw [show m_X4_sumOr v (2 : Int32) = some b' from hb']
    exact hb''
  · rcases h2 with ⟨s1, h3, h4⟩ | ⟨e', s1, j, h3, h4⟩
    · left
      refine ⟨s1, ?_, h4⟩
      revert h3
      cases c_X2_exactLong τ with
      | none => exact fun h3 => h3
      | some y =>
        obtain ⟨y1, y2⟩ := y
        cases y1 with
        | ok a => exact fun h3 => h3
        | error a => exact fun h3 => h3
    · right
      refine ⟨e', s1, j, ?_, h4⟩
      revert h3
      cases c_X2_exactLong τ with
      | none => exact fun h3 => h3
      | some y =>
        obtain ⟨y1, y2⟩ := y
        cases y1 with
        | ok a => exact fun h3 => h3
        | error a => exact fun h3 => h3
end SUMS
theorem op_sum (I : Ims) (s u : St) (a0 a1 : Int32) (h : Rl I s u) : Agr ["java/lang/IndexOutOfBoundsException", "java/lang/ArithmeticException"] (Rl I) (c_X3_sum s a0 a1) (m_X4_sum u a0 a1) := by
  obtain ⟨n, k, w, C, M, q, J, hW, hC, hM0, hI⟩ := h
  unfold c_X3_sum m_X4_sum
  have hM : RM n k w C M q J (sI u 0 0 0) := hM0.sI0 (Or.inl rfl)
  have ht : (sI u 0 0 0).1 0 0 = 0 := sIs
  generalize sI u 0 0 0 = u0 at hM ht ⊢
  simp only [needMask_eq, needWord_eq, needImage_eq, needColumn_eq hC hW, needRow_eq hC hW, needWidth_eq, xB_gX, isMask_eq, isWord_eq, isColumn_eq hM hW, isRow_eq hM hW, areIn_eq hM hW, isIn_eq, rg_if, needArgument_eq, needState_eq, Option.bind_some, if_bI, fails_eq, t64, I_m192, I_m62, I_m9, I_0, I_1, I_2, I_3, I_5, I_9, I_16, I_62, I_63, I_64, I_192, I_1000, L_m192, L_m62, L_m9, L_0, L_1, L_2, L_3, L_5, L_9, L_16, L_62, L_63, L_64, L_192, L_1000]
  by_cases h1 : inB a0 k = true
  case neg =>
    rw [Bool.not_eq_true] at h1
    simp only [h1, Bool.false_and, Bool.and_false, Bool.and_self, Bool.true_and, Bool.and_true, Bool.false_eq_true, eq_self, if_true, if_false, reduceIte, ite_self]
    exact Agr.err hW hI 0 rfl rfl rfl sIs hC (hM.sI0 (Or.inl rfl))
  by_cases h2 : inB a1 8 = true
  case neg =>
    rw [Bool.not_eq_true] at h2
    simp only [h1, h2, Bool.false_and, Bool.and_false, Bool.and_self, Bool.true_and, Bool.and_true, Bool.false_eq_true, eq_self, if_true, if_false, reduceIte, ite_self]
    exact Agr.err hW hI 0 rfl rfl rfl sIs hC (hM.sI0 (Or.inl rfl))
  simp only [h1, h2, Bool.false_and, Bool.and_false, Bool.and_self, Bool.true_and, Bool.and_true, Bool.false_eq_true, eq_self, if_true, if_false, reduceIte, ite_self]
  obtain ⟨c, hc, rfl⟩ := inB_ex hW.k31 h1
  obtain ⟨m, hm, rfl⟩ := inB_ex (by decide) h2
  have hn := hW.hn
  rw [hC.rows, hM.rows]
  refine sumTo_end hW hI hC hM ht hc hm (Nat.le_refl n) _ (fun i hi => ?_)
  rw [fa_lt, show (1 : Int32) = nI 1 from rfl, pk_sub_toInt (by omega) (by decide), nI_toInt (by omega)]
  omega
theorem op_upTo (I : Ims) (s u : St) (a0 a1 a2 : Int32) (h : Rl I s u) : Agr ["java/lang/IndexOutOfBoundsException", "java/lang/ArithmeticException"] (Rl I) (c_X3_upTo s a0 a1 a2) (m_X4_upTo u a0 a1 a2) := by
  obtain ⟨n, k, w, C, M, q, J, hW, hC, hM0, hI⟩ := h
  unfold c_X3_upTo m_X4_upTo
  have hM : RM n k w C M q J (sI u 0 0 0) := hM0.sI0 (Or.inl rfl)
  have ht : (sI u 0 0 0).1 0 0 = 0 := sIs
  generalize sI u 0 0 0 = u0 at hM ht ⊢
  simp only [needMask_eq, needWord_eq, needImage_eq, needColumn_eq hC hW, needRow_eq hC hW, needWidth_eq, xB_gX, isMask_eq, isWord_eq, isColumn_eq hM hW, isRow_eq hM hW, areIn_eq hM hW, isIn_eq, rg_if, needArgument_eq, needState_eq, Option.bind_some, if_bI, fails_eq, t64, I_m192, I_m62, I_m9, I_0, I_1, I_2, I_3, I_5, I_9, I_16, I_62, I_63, I_64, I_192, I_1000, L_m192, L_m62, L_m9, L_0, L_1, L_2, L_3, L_5, L_9, L_16, L_62, L_63, L_64, L_192, L_1000]
  by_cases h1 : inB a0 k = true
  case neg =>
    rw [Bool.not_eq_true] at h1
    simp only [h1, Bool.false_and, Bool.and_false, Bool.and_self, Bool.true_and, Bool.and_true, Bool.false_eq_true, eq_self, if_true, if_false, reduceIte, ite_self]
    exact Agr.err hW hI 0 rfl rfl rfl sIs hC (hM.sI0 (Or.inl rfl))
  by_cases h2 : inB a1 n = true
  case neg =>
    rw [Bool.not_eq_true] at h2
    simp only [h1, h2, Bool.false_and, Bool.and_false, Bool.and_self, Bool.true_and, Bool.and_true, Bool.false_eq_true, eq_self, if_true, if_false, reduceIte, ite_self]
    exact Agr.err hW hI 0 rfl rfl rfl sIs hC (hM.sI0 (Or.inl rfl))
  by_cases h3 : inB a2 8 = true
  case neg =>
    rw [Bool.not_eq_true] at h3
    simp only [h1, h2, h3, Bool.false_and, Bool.and_false, Bool.and_self, Bool.true_and, Bool.and_true, Bool.false_eq_true, eq_self, if_true, if_false, reduceIte, ite_self]
    exact Agr.err hW hI 0 rfl rfl rfl sIs hC (hM.sI0 (Or.inl rfl))
  simp only [h1, h2, h3, Bool.false_and, Bool.and_false, Bool.and_self, Bool.true_and, Bool.and_true, Bool.false_eq_true, eq_self, if_true, if_false, reduceIte, ite_self]
  obtain ⟨c, hc, rfl⟩ := inB_ex hW.k31 h1
  obtain ⟨r, hr, rfl⟩ := inB_ex hW.n31 h2
  obtain ⟨m, hm, rfl⟩ := inB_ex (by decide) h3
  have hn := hW.hn
  rw [nI_s]
  refine sumTo_end hW hI hC hM ht hc hm hr _ (fun i hi => ?_)
  rw [nI_ltI (by omega) (by omega)]
  omega
