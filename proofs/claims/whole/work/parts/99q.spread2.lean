/-! ===== spread, both sides ===== -/
theorem eB_inl {α β : Type} (a : α) (kk : α → Option β) : eB (some (Sum.inl a)) kk = kk a := rfl
theorem xE_t {S Q β : Type} (e : String) (σ : St) (kk : Unit → St → Option (S ⊕ (Q ⊕ (Except String β × St)))) : xE (some (gX (!false) e, σ)) kk = kk () σ := rfl
section SPR
variable {n k : Nat} {w : Nat → Nat} {C : Nat → Nat → Int64} {M : Nat → Nat → Bool} {q : Int32} {σ t0 u v τ J : St} {l : List Int64} {L : List (Nat × Int64)} {i : Nat}
theorem Ls.oc (h : Ls v l) (ho : Oc 7 v τ) : Ls τ l := ⟨by rw [(ho 0 (by decide)).1]; exact h.1, h.2.1, fun i x hx => by rw [(ho 6 (by decide)).2]; exact h.2.2 i x hx⟩
theorem take_s {l : List Int64} {i : Nat} (hi : i < l.length) : l.take (i + 1) = l.take i ++ [l.getD i ((-9223372036854775808) : Int64)] := by
  rw [List.take_succ, getD_some hi]; rfl
theorem dif_T {x y : Int64} (hx : -4611686018427387904 ≤ x.toInt ∧ x.toInt ≤ 4611686018427387903) (hy : -4611686018427387904 ≤ y.toInt ∧ y.toInt ≤ 4611686018427387903) : (x - y).toInt = x.toInt - y.toInt := fb_subL (by omega) (by omega)
theorem mspr1_wp (hl : Ls τ l) (hF : ∀ x, x ∈ l → -4611686018427387904 ≤ x.toInt ∧ x.toInt ≤ 4611686018427387903) (hi : i < l.length) {K : Int} (hB : mB τ 16777216 K) : wp (lp 5000 (fun (s16 : Int32 × St) => (if (nI i) ≤ s16.1 then some (.inr s16.2) else ((ix (nI i) 192).bind fun j24 => ((ix s16.1 192).bind fun j26 => ((ix (nI i) 192).bind fun j28 => ((ix s16.1 192).bind fun j30 => ((m_X4_adds s16.2 (s16.2.2 6 j24 - s16.2.2 6 j26) (s16.2.2 6 j28 - s16.2.2 6 j30)).bind fun v32 => some (.inl ((s16.1 + 1), v32))))))))) ((0 : Int32), τ)) (fun t => Oc 7 τ t ∧ mB t (16777216 + 2533274790395904 * 192) K ∧ mV t = mV τ + qd (l.getD i ((-9223372036854775808) : Int64)).toInt (l.take i)) := by
  have h192 := hl.2.1
  have gF : ∀ j, j < l.length → -4611686018427387904 ≤ (l.getD j ((-9223372036854775808) : Int64)).toInt ∧ (l.getD j ((-9223372036854775808) : Int64)).toInt ≤ 4611686018427387903 := fun j hj => hF _ (List.mem_iff_getElem?.mpr ⟨j, getD_some hj⟩)
  refine wp_lp i (fun j (z : Int32 × St) => z.1 = nI j ∧ Oc 7 τ z.2 ∧ mB z.2 (16777216 + 2533274790395904 * (j : Int)) K ∧ mV z.2 = mV τ + qd (l.getD i ((-9223372036854775808) : Int64)).toInt (l.take j)) (by omega) ⟨rfl, Oc.rf, by simpa using hB, by rw [List.take_zero, qd, Int.add_zero]⟩ (fun j z hj hJ => ?_) (fun z hJ => ?_)
  · obtain ⟨z1, t⟩ := z
    obtain ⟨e1, g1, g2, g3⟩ := hJ
    simp only at e1 g1 g2 g3
    subst e1
    have hlt := hl.oc g1
    show wp (if nI i ≤ nI j then _ else (ix (nI i) 192).bind fun j24 => ((ix (nI j) 192).bind fun j26 => ((ix (nI i) 192).bind fun j28 => ((ix (nI j) 192).bind fun j30 => ((m_X4_adds t (t.2 6 j24 - t.2 6 j26) (t.2 6 j28 - t.2 6 j30)).bind fun v32 => some (Sum.inl ((nI j + 1), v32))))))) _
    rw [if_neg (ltL i (by omega) hj), ix192 (by omega), Option.bind_some, ix192 (by omega), Option.bind_some, Option.bind_some, Option.bind_some, hlt.num hi, hlt.num (show j < l.length by omega), nI_s]
    have ed := dif_T (gF i hi) (gF j (by omega))
    have f1 := gF i hi
    have f2 := gF j (by omega)
    refine wp_bm (adds_wp g2 (by omega) _ _ (by rw [ed]; omega) (by rw [ed]; omega)) (fun t2 g4 => wp_some ⟨rfl, g1.tr g4.1, ?_, ?_⟩)
    · exact mB_w g4.2.1 (by omega) (Int.le_refl _)
    · show mV t2 = _
      rw [g4.2.2, g3, ed, take_s (show j < l.length by omega), qd_app, qd, qd]
      omega
  · obtain ⟨z1, t⟩ := z
    obtain ⟨e1, g1, g2, g3⟩ := hJ
    simp only at e1 g1 g2 g3
    subst e1
    show wp (if nI i ≤ nI i then _ else _) _
    rw [if_pos (geL i (by omega))]
    exact wp_some ⟨g1, mB_w g2 (by omega) (Int.le_refl _), g3⟩
theorem mspr_wp (hl : Ls v l) (hF : ∀ x, x ∈ l → -4611686018427387904 ≤ x.toInt ∧ x.toInt ≤ 4611686018427387903) (hB : mB v 0 0) (hz : mV v = 0) : wp (lp 5000 (fun (s8 : Int32 × St) => (if s8.2.1 0 10 ≤ s8.1 then some (.inr s8.2) else ((lp 5000 (fun (s16 : Int32 × St) => (if s8.1 ≤ s16.1 then some (.inr s16.2) else ((ix s8.1 192).bind fun j24 => ((ix s16.1 192).bind fun j26 => ((ix s8.1 192).bind fun j28 => ((ix s16.1 192).bind fun j30 => ((m_X4_adds s16.2 (s16.2.2 6 j24 - s16.2.2 6 j26) (s16.2.2 6 j28 - s16.2.2 6 j30)).bind fun v32 => some (.inl ((s16.1 + 1), v32))))))))) ((0 : Int32), s8.2)).bind fun (r17 : St) => ((m_X4_carries r17).bind fun v34 => some (.inl ((s8.1 + 1), v34)))))) ((0 : Int32), v)) (fun t => Oc 7 v t ∧ mB t 16777216 (274877906944 * 192) ∧ mV t = qs l) := by
  have h192 := hl.2.1
  refine wp_lp l.length (fun i (z : Int32 × St) => z.1 = nI i ∧ Oc 7 v z.2 ∧ mB z.2 16777216 (274877906944 * (i : Int)) ∧ mV z.2 = qs (l.take i)) (by omega) ⟨rfl, Oc.rf, mB_w hB (by decide) (by omega), by rw [hz, List.take_zero]; rfl⟩ (fun i z hi hJ => ?_) (fun z hJ => ?_)
  · obtain ⟨z1, t⟩ := z
    obtain ⟨e1, g1, g2, g3⟩ := hJ
    simp only at e1 g1 g2 g3
    subst e1
    have hlt := hl.oc g1
    obtain ⟨t2, et2, g4, g5, g6⟩ := mspr1_wp hlt hF hi g2
    obtain ⟨t3, et3, g7, g8, a0, a1, a2, a3, a4, a5⟩ := carries_wp g5 (by decide) (by omega)
    refine ⟨Sum.inl (nI (i + 1), t3), ?_, rfl, (g1.tr g4).tr g7, ?_, ?_⟩
    · show (if t.1 0 10 ≤ nI i then _ else (lp 5000 _ _).bind _) = _
      rw [hlt.1, if_neg (ltL _ (by omega) hi), et2, Option.bind_some, et3, Option.bind_some, nI_s]
    · show mB t3 16777216 (274877906944 * ((i + 1 : Nat) : Int))
      unfold mB
      omega
    · show mV t3 = _
      rw [g8, g6, g3, take_s hi, qs_snoc]
  · obtain ⟨z1, t⟩ := z
    obtain ⟨e1, g1, g2, g3⟩ := hJ
    simp only at e1 g1 g2 g3
    subst e1
    rw [List.take_length] at g3
    show wp (if t.1 0 10 ≤ nI l.length then _ else _) _
    rw [(hl.oc g1).1, if_pos (geL _ (by omega))]
    exact wp_some ⟨g1, mB_w g2 (by omega) (by omega), g3⟩
theorem cspr_wp (hP : Pk σ L) (h0 : 0 < L.length) (ho : Oc 25 σ t0) (hw : Wd t0 0 0) (hF : ∀ x, x ∈ L.map Prod.snd → -4611686018427387904 ≤ x.toInt ∧ x.toInt ≤ 4611686018427387903) : wp (lp 5000 (fun (s16 : Int64 × Int32 × St) => (if σ.1 19 0 ≤ s16.2.1 then some (.inr (.inl (s16.1, s16.2.2))) else ((ix s16.2.1 192).bind fun j24 => ((c_J9_abs_067f4 s16.2.2 (s16.2.2.2 21 j24 - σ.2 21 0)).bind fun v26 => ((if (3037000499 : Int64) < v26 then some (0 : Int32) else some (1 : Int32)).bind fun (t28 : Int32) => (xE (c_X3_needLong s16.2.2 t28) fun _ s33 => ((c_X2_includeProduct s33 ((s16.2.2.2 21 j24 - σ.2 21 0) * (σ.1 19 0).toInt64) (s16.2.2.2 21 j24 - σ.2 21 0)).bind fun v36 => some (.inl ((s16.1 + (s16.2.2.2 21 j24 - σ.2 21 0)), (s16.2.1 + 1), v36))))))))) ((0 : Int64), (0 : Int32), t0)) (fun (r : (Int64 × St) ⊕ (Except String Int64 × St)) => (∃ T t, r = Sum.inl (T, t) ∧ Oc 25 σ t ∧ T.toInt = q1 (L.map Prod.snd) - (L.length : Int) * ((L.map Prod.snd).getD 0 ((-9223372036854775808) : Int64)).toInt ∧ (-(3037000499 * 192) ≤ T.toInt ∧ T.toInt ≤ 3037000499 * 192) ∧ Wd t ((L.length : Int) * (q2 (L.map Prod.snd) - 2 * ((L.map Prod.snd).getD 0 ((-9223372036854775808) : Int64)).toInt * q1 (L.map Prod.snd) + (L.length : Int) * (((L.map Prod.snd).getD 0 ((-9223372036854775808) : Int64)).toInt * ((L.map Prod.snd).getD 0 ((-9223372036854775808) : Int64)).toInt))) 768) ∨ (lgB (qs (L.map Prod.snd)) = false ∧ ∃ t, r = Sum.inr (.error "java/lang/ArithmeticException", t) ∧ Oc 25 σ t)) := by
  have h192 := hP.2.1
  have hll : (L.map Prod.snd).length = L.length := List.length_map ..
  have gF : ∀ j, j < L.length → -4611686018427387904 ≤ ((L.map Prod.snd).getD j ((-9223372036854775808) : Int64)).toInt ∧ ((L.map Prod.snd).getD j ((-9223372036854775808) : Int64)).toInt ≤ 4611686018427387903 := fun j hj => hF _ (List.mem_iff_getElem?.mpr ⟨j, getD_some (by omega)⟩)
  have e0 := hP.num (show 0 < (L.map Prod.snd).length by omega)
  have hc := gF 0 h0
  have hnum : ∀ j, j < L.length → ∀ t, Oc 25 σ t → t.2 21 j = (L.map Prod.snd).getD j ((-9223372036854775808) : Int64) := fun j hj t ht => by rw [(ht 21 (by decide)).2]; exact hP.num (by omega)
  have hmem : ∀ j, j < L.length → (L.map Prod.snd).getD j ((-9223372036854775808) : Int64) ∈ L.map Prod.snd := fun j hj => List.mem_iff_getElem?.mpr ⟨j, getD_some (by omega)⟩
  have hfar : ∀ x, x ∈ L.map Prod.snd → (3037000499 < x.toInt - ((L.map Prod.snd).getD 0 ((-9223372036854775808) : Int64)).toInt ∨ 3037000499 < -(x.toInt - ((L.map Prod.snd).getD 0 ((-9223372036854775808) : Int64)).toInt)) → lgB (qs (L.map Prod.snd)) = false := fun x hx h => qs_far hx (by omega) h
  have htk : ∀ j, j < L.length → (L.map Prod.snd).take (j + 1) = (L.map Prod.snd).take j ++ [(L.map Prod.snd).getD j ((-9223372036854775808) : Int64)] := fun j hj => take_s (by omega)
  generalize hc0 : (L.map Prod.snd).getD 0 ((-9223372036854775808) : Int64) = c at *
  refine wp_lp L.length (fun i (z : Int64 × Int32 × St) => z.2.1 = nI i ∧ Oc 25 σ z.2.2 ∧ z.1.toInt = q1 ((L.map Prod.snd).take i) - (i : Int) * c.toInt ∧ (-(3037000499 * (i : Int)) ≤ z.1.toInt ∧ z.1.toInt ≤ 3037000499 * (i : Int)) ∧ Wd z.2.2 ((L.length : Int) * (q2 ((L.map Prod.snd).take i) - 2 * c.toInt * q1 ((L.map Prod.snd).take i) + (i : Int) * (c.toInt * c.toInt))) (4 * i)) (by omega) ⟨rfl, ho, by rw [List.take_zero, q1]; simp, by simp, by rw [List.take_zero, q1, q2]; simpa using hw⟩ (fun i z hi hJ => ?_) (fun z hJ => ?_)
  · obtain ⟨T, z2, t⟩ := z
    obtain ⟨e1, g1, g2, g3, g4⟩ := hJ
    simp only at e1 g1 g2 g3 g4
    subst e1
    have hx := hnum i hi t g1
    have hxF := gF i hi
    have hxm := hmem i hi
    have hxt := htk i hi
    generalize (L.map Prod.snd).getD i ((-9223372036854775808) : Int64) = x at *
    have ed := dif_T hxF hc
    show wp (if σ.1 19 0 ≤ nI i then _ else (ix (nI i) 192).bind fun j24 => ((c_J9_abs_067f4 t (t.2 21 j24 - σ.2 21 0)).bind fun v26 => ((if (3037000499 : Int64) < v26 then some (0 : Int32) else some (1 : Int32)).bind fun (t28 : Int32) => (xE (c_X3_needLong t t28) fun _ s33 => ((c_X2_includeProduct s33 ((t.2 21 j24 - σ.2 21 0) * (σ.1 19 0).toInt64) (t.2 21 j24 - σ.2 21 0)).bind fun v36 => some (Sum.inl ((T + (t.2 21 j24 - σ.2 21 0)), (nI i + 1), v36))))))) _
    rw [hP.1, if_neg (ltL _ (by omega) hi), ix192 (by omega), Option.bind_some, hx, e0, abs_aB, Option.bind_some, s01, Option.bind_some, needLong_eq]
    have hap : (aB (x - c)).toInt = if 0 ≤ x.toInt - c.toInt then x.toInt - c.toInt else -(x.toInt - c.toInt) := by
      unfold aB
      simp only [fa_le64, L_0, ed]
      split
      · exact ed
      · rw [negT (by rw [ed]; omega), ed]
    have lR : (3037000499 : Int64).toInt = 3037000499 := by decide
    by_cases far : (3037000499 : Int64) < aB (x - c)
    · rw [decide_eq_true far]
      rw [fa_lt64, hap, lR] at far
      have hf : lgB (qs (L.map Prod.snd)) = false := hfar x hxm (by split at far <;> omega)
      exact wp_some (Or.inr ⟨hf, t, rfl, g1⟩)
    · rw [decide_eq_false far]
      rw [fa_lt64, hap, lR] at far
      have hd : -3037000499 ≤ x.toInt - c.toInt ∧ x.toInt - c.toInt ≤ 3037000499 := by split at far <;> omega
      rw [xE_t]
      have hNl : ((nI L.length).toInt64).toInt = L.length := by rw [t64, nI_toInt (by omega)]
      have hb := mul_in (a := x.toInt - c.toInt) (b := (L.length : Int)) (A := 3037000499) (B := 192) (by decide) hd (by omega)
      have ep : ((x - c) * (nI L.length).toInt64).toInt = (x.toInt - c.toInt) * L.length := by
        have := fb_mulL (x := x - c) (y := (nI L.length).toInt64) (by rw [ed, hNl]; omega) (by rw [ed, hNl]; omega)
        rw [this, ed, hNl]
      refine wp_bm (wPrd62 g4 (by omega) (by rw [ep]; omega) (by rw [ed]; omega)) (fun t2 g5 => ?_)
      have eT : (T + (x - c)).toInt = T.toInt + (x.toInt - c.toInt) := by
        rw [fb_addL (by rw [ed]; omega) (by rw [ed]; omega), ed]
      rw [nI_s]
      refine wp_some ⟨rfl, g1.tr g5.1, ?_, ?_, ?_⟩
      · show (T + (x - c)).toInt = q1 ((L.map Prod.snd).take (i + 1)) - ((i + 1 : Nat) : Int) * c.toInt
        rw [eT, g2, hxt, q1_app, q1, q1, Int.natCast_succ]
        grind
      · show -(3037000499 * ((i + 1 : Nat) : Int)) ≤ (T + (x - c)).toInt ∧ (T + (x - c)).toInt ≤ 3037000499 * ((i + 1 : Nat) : Int)
        rw [eT]
        omega
      · show Wd t2 ((L.length : Int) * (q2 ((L.map Prod.snd).take (i + 1)) - 2 * c.toInt * q1 ((L.map Prod.snd).take (i + 1)) + ((i + 1 : Nat) : Int) * (c.toInt * c.toInt))) (4 * (i + 1))
        have g6 := g5.2
        rw [ep, ed] at g6
        have : (L.length : Int) * (q2 ((L.map Prod.snd).take (i + 1)) - 2 * c.toInt * q1 ((L.map Prod.snd).take (i + 1)) + ((i + 1 : Nat) : Int) * (c.toInt * c.toInt)) = (L.length : Int) * (q2 ((L.map Prod.snd).take i) - 2 * c.toInt * q1 ((L.map Prod.snd).take i) + (i : Int) * (c.toInt * c.toInt)) + (x.toInt - c.toInt) * L.length * (x.toInt - c.toInt) := by
          rw [hxt, q1_app, q2_app, q1, q1, q2, q2, Int.natCast_succ]
          grind
        rw [this]
        exact g6
  · obtain ⟨T, z2, t⟩ := z
    obtain ⟨e1, g1, g2, g3, g4⟩ := hJ
    simp only at e1 g1 g2 g3 g4
    subst e1
    show wp (if σ.1 19 0 ≤ nI L.length then _ else _) _
    rw [hP.1, if_pos (geL _ (by omega))]
    rw [List.take_of_length_le (by omega)] at g2 g4
    exact wp_some (Or.inl ⟨T, t, rfl, g1, g2, by omega, Wd_up g4 (by omega)⟩)
end SPR
theorem op_spread (I : Ims) (s u : St) (a0 a1 : Int32) (h : Rl I s u) : Agr ["java/lang/IndexOutOfBoundsException", "java/lang/ArithmeticException"] (Rl I) (c_X3_spread s a0 a1) (m_X4_spread u a0 a1) := by
  obtain ⟨n, k, w, C, M, q, J, hW, hC, hM0, hI⟩ := h
  unfold c_X3_spread m_X4_spread
  have hM : RM n k w C M q J (sI u 0 0 0) := hM0.sI0 (Or.inl rfl)
  have ht : (sI u 0 0 0).1 0 0 = 0 := sIs
  generalize sI u 0 0 0 = u0 at hM ht ⊢
  simp only [needMask_eq, needWord_eq, needImage_eq, needColumn_eq hC hW, needRow_eq hC hW, needWidth_eq, xB_gX, isMask_eq, isWord_eq, isColumn_eq hM hW, isRow_eq hM hW, areIn_eq hM hW, isIn_eq, rg_if, needArgument_eq, needState_eq, Option.bind_some, if_bI, fails_eq, t64, I_m192, I_m62, I_m9, I_0, I_1, I_2, I_3, I_5, I_9, I_16, I_62, I_63, I_64, I_192, I_1000, L_m192, L_m62, L_m9, L_0, L_1, L_2, L_3, L_5, L_9, L_16, L_62, L_63, L_64, L_192, L_1000]
  by_cases h1 : inB a0 k = true
  case neg =>
    rw [Bool.not_eq_true] at h1
    simp only [h1, Bool.false_and, Bool.and_false, Bool.and_self, Bool.true_and, Bool.and_true, Bool.false_eq_true, eq_self, if_true, if_false, reduceIte, ite_self]
    exact Agr.err hW hI 0 rfl rfl rfl sIs hC (hM.sI0 (Or.inl rfl))
  by_cases h2 : inB a1 8 = true
  case neg =>
    rw [Bool.not_eq_true] at h2
    simp only [h1, h2, Bool.false_and, Bool.and_false, Bool.and_self, Bool.true_and, Bool.and_true, Bool.false_eq_true, eq_self, if_true, if_false, reduceIte, ite_self]
    exact Agr.err hW hI 0 rfl rfl rfl sIs hC (hM.sI0 (Or.inl rfl))
  simp only [h1, h2, Bool.false_and, Bool.and_false, Bool.and_self, Bool.true_and, Bool.and_true, Bool.false_eq_true, eq_self, if_true, if_false, reduceIte, ite_self]
  obtain ⟨c, hc, rfl⟩ := inB_ex hW.k31 h1
  obtain ⟨m, hm, rfl⟩ := inB_ex (by decide) h2
  refine Agr.bindC (gather_wp hC hW hc hm) (fun τ hτ => ?_)
  refine Agr.bindM (lists_wp hM hW hc hm ht) (fun v hv => ?_)
  obtain ⟨hMv, htv, l, hl, hs, hp⟩ := hv
  have hF : ∀ x, x ∈ (gl (fun r => C c r != ((-9223372036854775808) : Int64) && M m r) (C c) n).map Prod.snd → -4611686018427387904 ≤ x.toInt ∧ x.toInt ≤ 4611686018427387903 := fun x hx => by
    obtain ⟨y, hy, rfl⟩ := List.mem_map.mp hx
    obtain ⟨f1, f2, f3⟩ := gl_mem.mp hy
    rw [f3]
    have hN := nbN (Bool.and_eq_true_iff.mp f2).1
    rcases hW.hf hc f1 with g | g
    · exact absurd g hN
    · exact fit_rg (hW.hw hc) g
  generalize hG : (gl (fun r => C c r != ((-9223372036854775808) : Int64) && M m r) (C c) n) = G at *
  have hFl : ∀ x, x ∈ l → -4611686018427387904 ≤ x.toInt ∧ x.toInt ≤ 4611686018427387903 := fun x hx => hF x (hp.mem_iff.mp hx)
  refine Agr.bindM (noSum_wp v) (fun v6 g6 => ?_)
  obtain ⟨o6, b6, z6⟩ := g6
  refine Agr.bindM (mspr_wp (hl.oc o6) hFl b6 z6) (fun t gt => ?_)
  obtain ⟨ot, bt, zt⟩ := gt
  rw [qs_perm hp] at zt
  have hMt := (hMv.oc (i := 7) (by decide) o6).oc (i := 7) (by decide) ot
  have htt : t.1 0 0 = 0 := by rw [(ot 0 (by decide)).1, (o6 0 (by decide)).1]; exact htv
  have h192 := hτ.2.2.1
  rw [hτ.2.1]
  by_cases hz : G.length = 0
  · rw [if_pos (by rw [hz]; rfl)]
    have hG0 : G = [] := List.length_eq_zero_iff.mp hz
    rw [hG0] at zt
    have zt0 : mV t = 0 := zt
    obtain ⟨p, ep, hpp⟩ := sumOr_wp bt (by decide) (by decide) 2
    rw [ep, Option.bind_some]
    rcases hpp with ⟨-, f2, f3⟩ | ⟨f1, -⟩
    · have e0 : p.1 = 0 := Int64.toInt.inj (by rw [f2, zt0, L_0])
      rw [e0]
      exact Agr.ok hW hI rfl rfl (by rw [(f3 0 (by decide)).1]; exact htt) hτ.1 (hMt.oc (i := 7) (by decide) f3)
    · rw [zt0] at f1
      exact absurd f1 (by decide)
  · rw [if_neg (nI_ne0 (by omega) (by omega)), show ix (0 : Int32) 192 = some 0 from ix192 (j := 0) (by decide), Option.bind_some, wRestart_eq, Option.bind_some]
    obtain ⟨r, er, hr⟩ := cspr_wp hτ.2 (by omega) (fL_oc (σ := τ) (i := 25) (o := 0) (n := 4) (f := fun _ => 0)) (Wd_0 τ) hF
    rw [hτ.2.1] at er
    rw [er]
    rcases hr with ⟨T, t1, rfl, f1, f2, f3, f4⟩ | ⟨f1, t1, rfl, f2⟩
    · rw [eB_inl]
      have eN : (-T).toInt = -T.toInt := negT (by omega)
      refine Agr.bindC (wPrd62 (x := T) (y := -T) f4 (by omega) (by omega) (by rw [eN]; omega)) (fun t2 f5 => ?_)
      have f6 := f5.2
      have hll : (G.map Prod.snd).length = G.length := List.length_map ..
      have hoff := qs_off (G.map Prod.snd) ((G.map Prod.snd).getD 0 ((-9223372036854775808) : Int64)).toInt
      rw [hll] at hoff
      rw [eN, f2, hoff] at f6
      exact sum_end hW hI (hτ.1.oc (i := 25) (by decide) (f1.tr f5.1)) f6 hMt htt bt zt (by decide) (by decide) 1 rfl
    · obtain ⟨p, ep, hpp⟩ := sumOr_wp bt (by decide) (by decide) 2
      rw [ep, Option.bind_some]
      rw [zt] at hpp
      rcases hpp with ⟨g1, -⟩ | ⟨-, v9, g2, rfl⟩
      · rw [f1] at g1; cases g1
      · exact Agr.err hW hI 1 rfl rfl rfl sIs (hτ.1.oc (i := 25) (by decide) f2) ((hMt.oc (i := 7) (by decide) g2).sI0 (Or.inl rfl))
