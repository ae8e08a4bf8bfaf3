/-! ===== the steps from one number to the next ===== -/
theorem gl_get {p : Nat → Bool} {f : Nat → Int64} {r : Nat} (hp : p r = true) : ∀ {i}, r < i → (gl p f i)[fb_ct p r]? = some (r, f r)
  | 0, h => absurd h (by omega)
  | i + 1, h => by
    rw [gl]
    by_cases e : r = i
    · subst e
      rw [List.getElem?_append_right (by rw [gl_len]; exact Nat.le_refl _), gl_len, Nat.sub_self, if_pos hp]
      rfl
    · have g := gl_get (f := f) hp (show r < i by omega)
      rw [List.getElem?_append_left (List.getElem?_eq_some_iff.mp g).1]
      exact g
def aB (x : Int64) : Int64 := if (0 : Int64) ≤ x then x else -x
theorem abs_aB (σ : St) (x : Int64) : c_J9_abs_067f4 σ x = some (aB x) := by
  unfold c_J9_abs_067f4 aB
  by_cases e : (0 : Int64) ≤ x
  · rw [if_pos e, if_pos e]; rfl
  · rw [if_neg e, if_neg e]; rfl
theorem amountOf_aB (σ : St) (x : Int64) : m_X4_amountOf σ x = some (aB x) := by
  unfold m_X4_amountOf aB
  by_cases e : (0 : Int64) ≤ x
  · rw [if_pos e, if_pos e]; rfl
  · rw [if_neg e, if_neg e]; rfl
theorem aB_gt {x : Int64} (h : -9223372036854775808 < x.toInt) : -9223372036854775808 < (aB x).toInt := by
  unfold aB
  have := Int64.toInt_lt x
  by_cases e : (0 : Int64) ≤ x
  · rw [if_pos e]; exact h
  · rw [if_neg e, Int64.toInt_neg, fb_bmodL (by omega) (by omega)]
    omega
def stX (l : List (Nat × Int64)) (j : Nat) : Int64 := (l[j]?.getD (0, 0)).2
def stG (l : List (Nat × Int64)) (j : Nat) : Int := if j = 0 then 0 else (aB (stX l j - stX l (j - 1))).toInt
theorem stX_eq {l : List (Nat × Int64)} {j : Nat} {x : Nat × Int64} (h : l[j]? = some x) : stX l j = x.2 := by
  unfold stX
  rw [h]; rfl
theorem Pk.stX {σ : St} {l : List (Nat × Int64)} (h : Pk σ l) {j : Nat} (hj : j < l.length) : σ.2 21 j = stX l j := by
  have e : l[j]? = some l[j] := List.getElem?_eq_getElem hj
  rw [(h.get e).2.2.2, stX_eq e]
theorem Pk.oc {σ τ : St} {l : List (Nat × Int64)} (h : Pk σ l) {i : Nat} (hi : 22 ≤ i) (ho : Oc i σ τ) : Pk τ l := by
  refine ⟨?_, h.2.1, fun j x e => ?_⟩
  · rw [(ho 19 (by omega)).1]; exact h.1
  · rw [(ho 20 (by omega)).1, (ho 21 (by omega)).2]; exact h.2.2 j x e
section STP
variable {n k : Nat} {w : Nat → Nat} {C : Nat → Nat → Int64} {M : Nat → Nat → Bool} {q : Int32} {σ u J : St} {c d m e : Nat} {I : Ims} {tbl : List String}
theorem csteps_wp {l : List (Nat × Int64)} (h : RC n k w C M q σ) (hl : Pk σ l) {f : Int32 × St → Option ((Int32 × St) ⊕ St)} (hs : ∀ i τ, i + 1 < l.length → Pk τ l → f (nI (i + 1), τ) = (c_X2_include τ (aB (stX l (i + 1) - stX l i))).bind fun t => some (.inl (nI (i + 2), t))) (hx : ∀ i τ, l.length ≤ i → i < 300 → Pk τ l → f (nI i, τ) = some (.inr τ)) : wp (lp 5000 f ((1 : Int32), fL σ 25 0 (fun _ => 0) 4)) (fun τ => RC n k w C M q τ ∧ Wd τ (fb_si (stG l) l.length) 800) := by
  have h192 := hl.2.1
  have z0 : stG l 0 = 0 := if_pos rfl
  refine wp_mono (P := fun τ => RC n k w C M q τ ∧ Wd τ (fb_si (stG l) (l.length - 1 + 1)) (2 * (l.length - 1))) (wp_lp (l.length - 1) (fun i (z : Int32 × St) => z.1 = nI (i + 1) ∧ RC n k w C M q z.2 ∧ Pk z.2 l ∧ Wd z.2 (fb_si (stG l) (i + 1)) (2 * i)) (by omega) ⟨rfl, show RC n k w C M q (fL σ 25 0 (fun _ => 0) 4) from h.oc (i := 25) (by decide) fL_oc, show Pk (fL σ 25 0 (fun _ => 0) 4) l from hl.oc (i := 25) (by decide) fL_oc, ?_⟩ (fun i z hi hJ => ?_) (fun z hJ => ?_)) (fun τ hτ => ⟨hτ.1, ?_⟩)
  · show Wd _ (0 + stG l 0) 0
    rw [z0]
    exact Wd_0 σ
  · obtain ⟨z1, τ⟩ := z
    obtain ⟨e1, h1, h2, h3⟩ := hJ
    simp only at e1 h1 h2 h3
    subst e1
    rw [hs i τ (by omega) h2]
    refine wp_bm (wInc_wp h3 (by omega)) (fun τ2 h4 => wp_some ⟨rfl, h1.oc (i := 25) (by decide) h4.1, h2.oc (i := 25) (by decide) h4.1, ?_⟩)
    have h5 := h4.2
    rw [fb_si_succ]
    have : stG l (i + 1) = (aB (stX l (i + 1) - stX l i)).toInt := if_neg (by omega)
    rw [this]
    exact h5
  · obtain ⟨z1, τ⟩ := z
    obtain ⟨e1, h1, h2, h3⟩ := hJ
    simp only at e1 h1 h2 h3
    subst e1
    exact wp_eq (hx _ τ (by omega) (by omega) h2) ⟨h1, h3⟩
  · have h5 := Wd_up hτ.2 (show 2 * (l.length - 1) ≤ 800 by omega)
    by_cases e : l.length = 0
    · rw [e] at h5 ⊢
      have : fb_si (stG l) (0 - 1 + 1) = fb_si (stG l) 0 := by
        show 0 + stG l 0 = 0
        rw [z0]; rfl
      rw [this] at h5
      exact h5
    · rw [show l.length - 1 + 1 = l.length by omega] at h5
      exact h5
theorem msteps_wp (h : RM n k w C M q J u) (hW : Wf n k w C M) (hc : c < k) (ht : u.1 0 0 = 0) (hB : mB u 0 0) (hz : mV u = 0) (p : Nat → Bool) (hp : ∀ i, i < n → p i = true → C c i ≠ ((-9223372036854775808) : Int64)) {f : Int32 × Int32 × St → Option ((Int32 × Int32 × St) ⊕ St)} (hs0 : ∀ i v a, i < n → RM n k w C M q J v → ¬ p i = true → f (a, nI i, v) = some (.inl (a, nI (i + 1), v))) (hs1 : ∀ i v, i < n → RM n k w C M q J v → p i = true → f (-1, nI i, v) = some (.inl (nI i, nI (i + 1), v))) (hs2 : ∀ i r v, i < n → RM n k w C M q J v → p i = true → p r = true → r < i → f (nI r, nI i, v) = (m_X4_adds v (aB (C c i - C c r)) 1).bind fun t => some (.inl (nI i, nI (i + 1), t))) (hx : ∀ v a, RM n k w C M q J v → f (a, nI n, v) = some (.inr v)) : wp (lp 5000 f ((-1 : Int32), (0 : Int32), u)) (fun v => RM n k w C M q J v ∧ v.1 0 0 = 0 ∧ mB v 500000000000000000 0 ∧ mV v = fb_si (stG (gl p (C c) n)) (gl p (C c) n).length) := by
  have hn := hW.hn
  have z0 : stG (gl p (C c) n) 0 = 0 := if_pos rfl
  rw [gl_len]
  refine wp_lp n (fun i (z : Int32 × Int32 × St) => z.2.1 = nI i ∧ RM n k w C M q J z.2.2 ∧ z.2.2.1 0 0 = 0 ∧ mB z.2.2 (2533274790395904 * (i : Int)) 0 ∧ mV z.2.2 = fb_si (stG (gl p (C c) n)) (fb_ct p i) ∧ ((fb_ct p i = 0 ∧ z.1 = -1) ∨ ∃ r, r < i ∧ p r = true ∧ z.1 = nI r ∧ fb_ct p i = fb_ct p r + 1)) (by omega) ⟨rfl, h, ht, by simpa using hB, by simpa [fb_si, fb_ct] using hz, Or.inl ⟨rfl, rfl⟩⟩ (fun i z hi hJ => ?_) (fun z hJ => ?_)
  · obtain ⟨z0', z1, v⟩ := z
    obtain ⟨e1, h1, h0, h2, h3, h4⟩ := hJ
    simp only at e1 h1 h0 h2 h3 h4
    subst e1
    have hK : mB v (2533274790395904 * ((i + 1 : Nat) : Int)) 0 := mB_up h2 (by omega)
    by_cases p1 : p i = true
    · have ect : fb_ct p (i + 1) = fb_ct p i + 1 := by rw [fb_ct_succ, if_pos p1]
      rcases h4 with ⟨g1, g2⟩ | ⟨r, g1, g2, g3, g4⟩
      · subst g2
        rw [hs1 i v hi h1 p1]
        refine wp_some ⟨rfl, h1, h0, hK, ?_, Or.inr ⟨i, by omega, p1, rfl, ect⟩⟩
        show mV v = _
        rw [h3, ect, fb_si_succ, g1, z0, Int.add_zero]
      · subst g3
        rw [hs2 i r v hi h1 p1 g2 g1]
        have b1 := cell_in hW hc hi (hp i hi p1)
        have b2 := cell_in hW hc (show r < n by omega) (hp r (by omega) g2)
        refine wp_bm (adds_wp h2 (by omega) (aB (C c i - C c r)) 1 (aB_gt (by rw [fb_subL (by omega) (by omega)]; omega)) (by decide)) (fun v2 g => wp_some ⟨rfl, h1.oc (i := 7) (by decide) g.1, ?_, ?_, ?_, Or.inr ⟨i, by omega, p1, rfl, ect⟩⟩)
        · show v2.1 0 0 = 0
          rw [(g.1 0 (by decide)).1]; exact h0
        · have := g.2.1
          rw [show 2533274790395904 * ((i + 1 : Nat) : Int) = 2533274790395904 * (i : Int) + 2533274790395904 by omega]
          exact this
        · show mV v2 = _
          rw [g.2.2, L_1, Int.mul_one, h3, ect, fb_si_succ]
          have e2 : stG (gl p (C c) n) (fb_ct p i) = (aB (C c i - C c r)).toInt := by
            unfold stG
            rw [if_neg (by omega), stX_eq (gl_get p1 hi), show fb_ct p i - 1 = fb_ct p r by omega, stX_eq (gl_get g2 (show r < n by omega))]
          rw [e2]
    · have ect : fb_ct p (i + 1) = fb_ct p i := by rw [fb_ct_succ, if_neg p1, Nat.add_zero]
      rw [hs0 i v z0' hi h1 p1]
      refine wp_some ⟨rfl, h1, h0, hK, ?_, ?_⟩
      · show mV v = _
        rw [ect]; exact h3
      · rw [ect]
        rcases h4 with g | ⟨r, g1, g⟩
        · exact Or.inl g
        · exact Or.inr ⟨r, by omega, g⟩
  · obtain ⟨z0', z1, v⟩ := z
    obtain ⟨e1, h1, h0, h2, h3, h4⟩ := hJ
    simp only at e1 h1 h0 h2 h3 h4
    subst e1
    exact wp_eq (hx v z0' h1) ⟨h1, h0, mB_up h2 (by omega), h3⟩
end STP
theorem op_steps (I : Ims) (s u : St) (a0 a1 : Int32) (h : Rl I s u) : Agr ["java/lang/IndexOutOfBoundsException", "java/lang/ArithmeticException"] (Rl I) (c_X3_steps s a0 a1) (m_X4_steps u a0 a1) := by
  obtain ⟨n, k, w, C, M, q, J, hW, hC, hM0, hI⟩ := h
  unfold c_X3_steps m_X4_steps
  have hM : RM n k w C M q J (sI u 0 0 0) := hM0.sI0 (Or.inl rfl)
  have ht : (sI u 0 0 0).1 0 0 = 0 := sIs
  generalize sI u 0 0 0 = u0 at hM ht ⊢
  simp only [needMask_eq, needWord_eq, needImage_eq, needColumn_eq hC hW, needRow_eq hC hW, needWidth_eq, xB_gX, isMask_eq, isWord_eq, isColumn_eq hM hW, isRow_eq hM hW, areIn_eq hM hW, isIn_eq, rg_if, needArgument_eq, needState_eq, Option.bind_some, if_bI, fails_eq, t64, I_m192, I_m62, I_m9, I_0, I_1, I_2, I_3, I_5, I_9, I_16, I_62, I_63, I_64, I_192, I_1000, L_m192, L_m62, L_m9, L_0, L_1, L_2, L_3, L_5, L_9, L_16, L_62, L_63, L_64, L_192, L_1000]
  by_cases h1 : inB a0 k = true
  case neg =>
    rw [Bool.not_eq_true] at h1
    simp only [h1, Bool.false_and, Bool.and_false, Bool.and_self, Bool.true_and, Bool.and_true, Bool.false_eq_true, eq_self, if_true, if_false, reduceIte, ite_self]
    exact Agr.err hW hI 0 rfl rfl rfl sIs hC (hM.sI0 (Or.inl rfl))
  by_cases h2 : inB a1 8 = true
  case neg =>
    rw [Bool.not_eq_true] at h2
    simp only [h1, h2, Bool.false_and, Bool.and_false, Bool.and_self, Bool.true_and, Bool.and_true, Bool.false_eq_true, eq_self, if_true, if_false, reduceIte, ite_self]
    exact Agr.err hW hI 0 rfl rfl rfl sIs hC (hM.sI0 (Or.inl rfl))
  simp only [h1, h2, Bool.false_and, Bool.and_false, Bool.and_self, Bool.true_and, Bool.and_true, Bool.false_eq_true, eq_self, if_true, if_false, reduceIte, ite_self]
  obtain ⟨c, hc, rfl⟩ := inB_ex hW.k31 h1
  obtain ⟨m, hm, rfl⟩ := inB_ex (by decide) h2
  have hn := hW.hn
  have hc6 := hW.c6 hc
  obtain ⟨σ1, eσ, hC1, hP⟩ := gather_wp hC hW hc hm
  rw [eσ, Option.bind_some, wRestart_eq, Option.bind_some]
  have h192 := hP.2.1
  have hcs : wp _ _ := csteps_wp hC1 hP (f := fun (s13 : Int32 × St) => (if s13.2.1 19 0 ≤ s13.1 then some (.inr s13.2) else ((ix s13.1 192).bind fun j21 => ((ix (s13.1 - (1 : Int32)) 192).bind fun j23 => ((c_J9_abs_067f4 s13.2 (s13.2.2 21 j21 - s13.2.2 21 j23)).bind fun v25 => ((c_X2_include s13.2 v25).bind fun v27 => some (.inl ((s13.1 + 1), v27)))))))) (fun i τ hi hP' => by
      simp only [hP'.1]
      rw [if_neg (ltL _ (by omega) hi), ix192 (by omega), Option.bind_some, show nI (i + 1) - 1 = nI i by rw [← nI_s i, Int32.add_sub_cancel], ix192 (by omega), Option.bind_some, abs_aB, Option.bind_some, hP'.stX hi, hP'.stX (show i < _ by omega), nI_s]) (fun i τ hi hi3 hP' => by
      simp only [hP'.1]
      exact if_pos (nI_le hi (by omega)))
  obtain ⟨τ, eτ, hτ⟩ := hcs
  rw [eτ, Option.bind_some]
  obtain ⟨u1, eu1, ho1, hB1, hz1⟩ := noSum_wp u0
  rw [eu1, Option.bind_some]
  have hM1 := hM.oc (i := 7) (by decide) ho1
  have ht1 : u1.1 0 0 = 0 := by rw [(ho1 0 (by decide)).1]; exact ht
  have hms : wp _ _ := msteps_wp hM1 hW hc ht1 hB1 hz1 (fun i => C c i != ((-9223372036854775808) : Int64) && M m i) (fun i hi p => nbN (Bool.and_eq_true_iff.mp p).1) (f := fun (s6 : Int32 × Int32 × St) => (if s6.2.2.1 0 5 ≤ s6.2.1 then some (.inr s6.2.2) else ((m_X4_hasUnder s6.2.2 (nI c) s6.2.1 (nI m)).bind fun v14 => ((if v14 = 0 then some (s6.1, s6.2.2) else ((if s6.1 = ((-1) : Int32) then some s6.2.2 else ((m_X4_at s6.2.2 (nI c) s6.2.1).bind fun v24 => ((ix v24 1152).bind fun j26 => ((m_X4_at s6.2.2 (nI c) s6.1).bind fun v28 => ((ix v28 1152).bind fun j30 => ((m_X4_amountOf s6.2.2 (s6.2.2.2 1 j26 - s6.2.2.2 1 j30)).bind fun v32 => ((m_X4_adds s6.2.2 v32 (1 : Int64)).bind fun v34 => some v34))))))).bind fun (t20 : St) => some (s6.2.1, t20))).bind fun (t16 : Int32 × St) => some (.inl (t16.1, (s6.2.1 + 1), t16.2)))))) (fun i v a hi hM' p => by
      simp only [hM'.rows, if_neg (ltL n hW.n31 hi), hasUnder_eq hM' hW hc (hW.r192 hi) hm, Option.bind_some, if_bI]
      rw [if_neg p, Option.bind_some, nI_s i]) (fun i v hi hM' p => by
      simp only [hM'.rows, if_neg (ltL n hW.n31 hi), hasUnder_eq hM' hW hc (hW.r192 hi) hm, Option.bind_some, if_bI]
      rw [if_pos p, if_pos True.intro, Option.bind_some, Option.bind_some, nI_s i]) (fun i r v hi hM' p p2 hr => by
      have hi2 := hW.r192 hi
      have hr' : r < n := by omega
      have hr2 := hW.r192 hr'
      simp only [hM'.rows, if_neg (ltL n hW.n31 hi), hasUnder_eq hM' hW hc hi2 hm, Option.bind_some, if_bI]
      have hne : ¬ nI r = (-1 : Int32) := fun z => by
        have := congrArg Int32.toInt z
        rw [nI_toInt (by omega)] at this
        have h1 : (-1 : Int32).toInt = -1 := rfl
        omega
      rw [if_pos p, if_neg hne, at_eq, Option.bind_some, ixA hc6 hi2, Option.bind_some, at_eq, Option.bind_some, ixA hc6 hr2, Option.bind_some, amountOf_aB, Option.bind_some, hM'.cell hc hi (nbN (Bool.and_eq_true_iff.mp p).1), hM'.cell hc hr' (nbN (Bool.and_eq_true_iff.mp p2).1), nI_s i]
      cases m_X4_adds v (aB (C c i - C c r)) 1 <;> rfl) (fun v a hM' => by
      simp only [hM'.rows]
      exact if_pos (geL n hW.n31))
  obtain ⟨v, ev, hv⟩ := hms
  rw [ev, Option.bind_some]
  exact sum_end hW hI hτ.1 hτ.2 hv.1 hv.2.1 hv.2.2.1 hv.2.2.2 (by decide) (by decide) 1 rfl
