/-! ===== sort, both sides ===== -/
section SR3
variable {n k : Nat} {w : Nat → Nat} {C : Nat → Nat → Int64} {M : Nat → Nat → Bool} {q : Int32} {σ u J : St} {c r o : Nat} {l : List Nat} {L : List (Nat × Int64)}
theorem srt1_wp (h : RC n k w C M q σ) (hW : Wf n k w C M) (hc : c < k) (hP : Pk σ []) : wp (lp 5000 (fun (s7 : Int32 × St) => (if s7.2.1 1 0 ≤ s7.1 then some (.inr s7.2) else ((ix (nI c) 6).bind fun j15 => ((ix s7.1 192).bind fun j17 => ((if s7.2.2 (4 + j15) j17 = ((-9223372036854775808) : Int64) then some s7.2 else ((ix (nI c) 6).bind fun j23 => ((ix s7.1 192).bind fun j25 => ((c_X0_take s7.2 s7.1 (s7.2.2 (4 + j23) j25)).bind fun v27 => some v27)))).bind fun (t19 : St) => some (.inl ((s7.1 + 1), t19))))))) ((0 : Int32), σ)) (fun τ => RC n k w C M q τ ∧ Pk τ (gl (fun r => C c r != ((-9223372036854775808) : Int64)) (C c) n)) := by
  have hc6 := hW.c6 hc
  refine wp_lp n (fun i (z : Int32 × St) => z.1 = nI i ∧ RC n k w C M q z.2 ∧ Pk z.2 (gl (fun r => C c r != ((-9223372036854775808) : Int64)) (C c) i)) hW.n5 ⟨rfl, h, hP⟩ (fun i z hi hJ => ?_) (fun z hJ => ?_)
  · obtain ⟨z1, τ⟩ := z
    obtain ⟨hz, h1, h2⟩ := hJ
    simp only at hz h1 h2
    subst hz
    have hi2 := hW.r192 hi
    have hl : (gl (fun r => C c r != ((-9223372036854775808) : Int64)) (C c) i).length < 192 := by
      rw [gl_len]
      have := fb_ct_le (fun r => C c r != ((-9223372036854775808) : Int64)) i
      omega
    show wp (if τ.1 1 0 ≤ nI i then _ else (ix (nI c) 6).bind fun j15 => (ix (nI i) 192).bind fun j17 => ((if τ.2 (4 + j15) j17 = ((-9223372036854775808) : Int64) then some τ else ((ix (nI c) 6).bind fun j23 => ((ix (nI i) 192).bind fun j25 => ((c_X0_take τ (nI i) (τ.2 (4 + j23) j25)).bind fun v27 => some v27)))).bind fun (t19 : St) => some (Sum.inl ((nI i + 1), t19)))) _
    rw [h1.rows, if_neg (ltL n hW.n31 hi), ix6 hc6, Option.bind_some, ix192 hi2, Option.bind_some, Option.bind_some, Option.bind_some, h1.cell hc hi]
    by_cases e : C c i = ((-9223372036854775808) : Int64)
    · rw [if_pos e, Option.bind_some, nI_s i]
      refine wp_some ⟨rfl, h1, ?_⟩
      rw [gl, if_neg (by simp [e]), List.append_nil]
      exact h2
    · obtain ⟨τ2, e2, h3, h4⟩ := h2.take hl i (C c i)
      rw [if_neg e, e2, Option.bind_some, Option.bind_some, nI_s i]
      refine wp_some ⟨rfl, rc_19 h1 h4, ?_⟩
      rw [gl, if_pos (by simp [e])]
      exact h3
  · obtain ⟨z1, τ⟩ := z
    obtain ⟨hz, h1, h2⟩ := hJ
    simp only at hz h1 h2
    subst hz
    simp only [h1.rows]
    exact wp_eq (if_pos (geL n hW.n31)) ⟨h1, h2⟩
theorem srt2_wp (h : RC n k w C M q σ) (hW : Wf n k w C M) (hc : c < k) (hP : Pk σ L) (hl : L.length + fb_ct (fun r => C c r == ((-9223372036854775808) : Int64)) n ≤ 192) : wp (lp 5000 (fun (s31 : Int32 × St) => (if s31.2.1 1 0 ≤ s31.1 then some (.inr s31.2) else ((ix (nI c) 6).bind fun j39 => ((ix s31.1 192).bind fun j41 => ((if s31.2.2 (4 + j39) j41 = ((-9223372036854775808) : Int64) then ((c_X0_take s31.2 s31.1 ((-9223372036854775808) : Int64)).bind fun v47 => some v47) else some s31.2).bind fun (t43 : St) => some (.inl ((s31.1 + 1), t43))))))) ((0 : Int32), σ)) (fun τ => RC n k w C M q τ ∧ Pk τ (L ++ pr (rs (fun r => C c r == ((-9223372036854775808) : Int64)) n))) := by
  have hc6 := hW.c6 hc
  refine wp_lp n (fun i (z : Int32 × St) => z.1 = nI i ∧ RC n k w C M q z.2 ∧ Pk z.2 (L ++ pr (rs (fun r => C c r == ((-9223372036854775808) : Int64)) i))) hW.n5 ⟨rfl, h, by rw [show pr (rs (fun r => C c r == ((-9223372036854775808) : Int64)) 0) = [] from rfl, List.append_nil]; exact hP⟩ (fun i z hi hJ => ?_) (fun z hJ => ?_)
  · obtain ⟨z1, τ⟩ := z
    obtain ⟨hz, h1, h2⟩ := hJ
    simp only at hz h1 h2
    subst hz
    have hi2 := hW.r192 hi
    show wp (if τ.1 1 0 ≤ nI i then _ else (ix (nI c) 6).bind fun j15 => (ix (nI i) 192).bind fun j17 => ((if τ.2 (4 + j15) j17 = ((-9223372036854775808) : Int64) then ((c_X0_take τ (nI i) ((-9223372036854775808) : Int64)).bind fun v47 => some v47) else some τ).bind fun (t19 : St) => some (Sum.inl ((nI i + 1), t19)))) _
    rw [h1.rows, if_neg (ltL n hW.n31 hi), ix6 hc6, Option.bind_some, ix192 hi2, Option.bind_some, h1.cell hc hi]
    by_cases e : C c i = ((-9223372036854775808) : Int64)
    · have eb : (C c i == ((-9223372036854775808) : Int64)) = true := by simp [e]
      have hlen : (L ++ pr (rs (fun r => C c r == ((-9223372036854775808) : Int64)) i)).length < 192 := by
        have g1 := fb_ct_mono (fun r => C c r == ((-9223372036854775808) : Int64)) (show i + 1 ≤ n by omega)
        rw [fb_ct_succ, if_pos eb] at g1
        rw [List.length_append, pr_len, rs_len]
        omega
      obtain ⟨τ2, e2, h3, h4⟩ := h2.take hlen i ((-9223372036854775808) : Int64)
      rw [if_pos e, e2, Option.bind_some, Option.bind_some, nI_s i]
      refine wp_some ⟨rfl, rc_19 h1 h4, ?_⟩
      rw [List.append_assoc, pr_app] at h3
      rw [rs, if_pos eb]
      exact h3
    · rw [if_neg e, Option.bind_some, nI_s i]
      refine wp_some ⟨rfl, h1, ?_⟩
      rw [rs, if_neg (by simp [e]), List.append_nil]
      exact h2
  · obtain ⟨z1, τ⟩ := z
    obtain ⟨hz, h1, h2⟩ := hJ
    simp only at hz h1 h2
    subst hz
    simp only [h1.rows]
    exact wp_eq (if_pos (geL n hW.n31)) ⟨h1, h2⟩
theorem srtM_wp (h : RM n k w C M q J u) (ht : u.1 0 0 = 0) (hW : Wf n k w C M) (hc : c < k) (hO : Od u []) (f : Bool) : wp (lp 5000 (fun (s4 : Int32 × St) => (if s4.2.1 0 5 ≤ s4.1 then some (.inr s4.2) else ((lp 5000 (fun (s12 : Int32 × St) => (if s12.1 ≤ 0 then some (.inr (s12.1, s12.2)) else ((ix (s12.1 - (1 : Int32)) 192).bind fun j20 => ((m_X4_goesAhead s12.2 (nI c) s4.1 (s12.2.1 10 j20) (bI f)).bind fun v22 => (if v22 = 0 then some (.inr (s12.1, s12.2)) else ((ix (s12.1 - (1 : Int32)) 192).bind fun j25 => ((ix s12.1 192).bind fun j27 => some (.inl ((s12.1 + (-1)), (sI s12.2 10 j27 (s12.2.1 10 j25))))))))))) (s4.2.1 0 16, s4.2)).bind fun (r13 : Int32 × St) => ((ix r13.1 192).bind fun j29 => some (.inl ((s4.1 + 1), (sI (sI r13.2 10 j29 s4.1) 0 16 ((sI r13.2 10 j29 s4.1).1 0 16 + (1 : Int32))))))))) ((0 : Int32), u)) (fun v => RM n k w C M q J v ∧ v.1 0 0 = 0 ∧ ∃ l, Od v l ∧ l.Pairwise (sR (C c) f) ∧ l.Perm (List.range n)) := by
  have hn := hW.hn
  refine wp_lp n (fun i (z : Int32 × St) => z.1 = nI i ∧ RM n k w C M q J z.2 ∧ z.2.1 0 0 = 0 ∧ ∃ l, Od z.2 l ∧ l.Pairwise (sR (C c) f) ∧ l.Perm (List.range i)) hW.n5 ⟨rfl, h, ht, [], hO, List.Pairwise.nil, List.Perm.refl _⟩ (fun i z hi hJ => ?_) (fun z hJ => ?_)
  · obtain ⟨z1, v⟩ := z
    obtain ⟨hz, h1, h0, l, h2, h3, h4⟩ := hJ
    simp only at hz h1 h0 h2
    subst hz
    have hll : l.length = i := by rw [h4.length_eq, List.length_range]
    have hlt : ∀ x, x ∈ l → x < i := fun x hx => List.mem_range.mp (h4.mem_iff.mp hx)
    show wp (if v.1 0 5 ≤ nI i then _ else (lp 5000 _ (v.1 0 16, v)).bind _) _
    rw [h1.rows, if_neg (ltL n hW.n31 hi), h2.1]
    refine wp_bm (insO_wp (G := gA (C c) f i) (by omega) h2.2.2 (fun j v' x hj ho hx hv => ?_) (fun v' => ?_)) (fun z hz => ?_)
    · have hM' := h1.oc (i := 10) (by decide) ho
      have hx2 := hlt x hx
      show (if nI (j + 1) ≤ 0 then _ else (ix (nI (j + 1) - 1) 192).bind fun j20 => ((m_X4_goesAhead v' (nI c) (nI i) (v'.1 10 j20) (bI f)).bind fun v22 => (if v22 = 0 then some (Sum.inr (nI (j + 1), v')) else ((ix (nI (j + 1) - 1) 192).bind fun j25 => ((ix (nI (j + 1)) 192).bind fun j27 => some (Sum.inl ((nI (j + 1) + (-1)), (sI v' 10 j27 (v'.1 10 j25))))))))) = _
      rw [if_neg (nI_nle (by omega) (by omega)), nI_pred, ix192 (by omega), Option.bind_some, hv, goesAhead_eq hM' hW hc hi (by omega) f, Option.bind_some, if_bI, Option.bind_some, ix192 hj, Option.bind_some, hv, pk_m1]
    · exact if_pos (show nI 0 ≤ 0 by decide)
    · obtain ⟨z1, v2⟩ := z
      obtain ⟨kk, e1, g0, g1, g2, g3, g4⟩ := hz
      simp only at e1 g1 g2 g4
      subst e1
      have hk2 : kk < 192 := by omega
      have e16 : (sI v2 10 kk (nI i)).1 0 16 = nI l.length := by rw [sIn (by omega), (g1 0 (by decide)).1]; exact h2.1
      show wp ((ix (nI kk) 192).bind fun j29 => some (Sum.inl ((nI i + 1), (sI (sI v2 10 j29 (nI i)) 0 16 ((sI v2 10 j29 (nI i)).1 0 16 + (1 : Int32)))))) _
      rw [ix192 hk2, Option.bind_some, e16, nI_s, nI_s]
      have hlen : (l.take kk ++ i :: l.drop kk).length = l.length + 1 := by
        rw [List.length_append, List.length_cons, List.length_take, List.length_drop]
        omega
      refine wp_some ⟨rfl, ((h1.oc (i := 10) (by decide) g1).sIx (by decide) (by decide)).sI0 (Or.inr (by decide)), ?_, l.take kk ++ i :: l.drop kk, ⟨by rw [hlen]; exact sIs, by rw [hlen]; omega, fun x y hx => ?_⟩, insO_pw h3 g0 hlt g3 (fun x y a b => (g4 x y a b).2), ?_⟩
      · show (sI (sI v2 10 kk (nI i)) 0 16 (nI (l.length + 1))).1 0 0 = 0
        rw [sIn (by omega), sIn (by omega), (g1 0 (by decide)).1]; exact h0
      · show (sI (sI v2 10 kk (nI i)) 0 16 (nI (l.length + 1))).1 10 x = nI y
        rw [sIn (by omega), sI1]
        by_cases ex : x = kk
        · subst ex
          rw [if_pos ⟨rfl, rfl⟩]
          rw [List.getElem?_append_right (by rw [List.length_take]; omega), List.length_take, show x - min x l.length = 0 by omega] at hx
          rw [Option.some.inj hx]
        · rw [if_neg (fun q => ex q.2)]
          by_cases hlt2 : x < kk
          · rw [List.getElem?_append_left (by rw [List.length_take]; omega), List.getElem?_take, if_pos hlt2] at hx
            exact g2 x y hlt2 hx
          · rw [List.getElem?_append_right (by rw [List.length_take]; omega), List.length_take, show x - min kk l.length = (x - kk - 1) + 1 by omega, List.getElem?_cons_succ, List.getElem?_drop, show kk + (x - kk - 1) = x - 1 by omega] at hx
            have := (g4 (x - 1) y (by omega) hx).1
            rwa [show x - 1 + 1 = x by omega] at this
      · rw [List.range_succ]
        refine List.Perm.trans List.perm_middle ?_
        rw [List.take_append_drop]
        exact (List.Perm.cons _ h4).trans (List.perm_append_singleton _ _).symm
  · obtain ⟨z1, v⟩ := z
    obtain ⟨hz, h1, h0, h2⟩ := hJ
    simp only at hz h1 h0 h2
    subst hz
    simp only [h1.rows]
    exact wp_eq (if_pos (geL n hW.n31)) ⟨h1, h0, h2⟩
theorem gl_fst (p : Nat → Bool) (g : Nat → Int64) : ∀ i, (gl p g i).map Prod.fst = rs p i
  | 0 => rfl
  | i + 1 => by
    rw [gl, rs, List.map_append, gl_fst p g i]
    cases p i <;> rfl
theorem rs_mem {p : Nat → Bool} {r : Nat} : ∀ {i}, r ∈ rs p i → p r = true
  | 0, h => by cases h
  | i + 1, h => by
    rw [rs, List.mem_append] at h
    rcases h with h | h
    · exact rs_mem h
    · by_cases e : p i = true
      · rw [if_pos e] at h
        rw [List.mem_singleton.mp h]; exact e
      · rw [if_neg e] at h; cases h
theorem rs_pw (p : Nat → Bool) : ∀ i, (rs p i).Pairwise (fun a b => a < b)
  | 0 => List.Pairwise.nil
  | i + 1 => by
    rw [rs, List.pairwise_append]
    refine ⟨rs_pw p i, ?_, fun x hx y hy => ?_⟩
    · by_cases e : p i = true
      · rw [if_pos e]; exact List.pairwise_singleton _ _
      · rw [if_neg e]; exact List.Pairwise.nil
    · by_cases e : p i = true
      · rw [if_pos e] at hy
        rw [List.mem_singleton.mp hy]; exact rs_lt hx
      · rw [if_neg e] at hy; cases hy
theorem rs_all (g : Nat → Int64) : ∀ i, (rs (fun r => g r != ((-9223372036854775808) : Int64)) i ++ rs (fun r => g r == ((-9223372036854775808) : Int64)) i).Perm (List.range i)
  | 0 => List.Perm.refl _
  | i + 1 => by
    rw [rs, rs, List.range_succ]
    by_cases e : g i = ((-9223372036854775808) : Int64)
    · rw [if_neg (by simp [e]), if_pos (by simp [e]), List.append_nil, ← List.append_assoc]
      exact (rs_all g i).append_right _
    · rw [if_pos (by simp [e]), if_neg (by simp [e]), List.append_nil, List.append_assoc]
      refine ((List.perm_append_comm (l₁ := [i])).append_left _).trans ?_
      rw [← List.append_assoc]
      exact (rs_all g i).append_right _
/-- the class's order is the reference's -/
theorem srt_eq (f : Bool) (hp : L.Perm (gl (fun r => C c r != ((-9223372036854775808) : Int64)) (C c) n)) (hs : L.Pairwise (stR f)) (h1 : l.Pairwise (sR (C c) f)) (h2 : l.Perm (List.range n)) : L.map Prod.fst ++ rs (fun r => C c r == ((-9223372036854775808) : Int64)) n = l := by
  have hL : ∀ x, x ∈ L → C c x.1 ≠ ((-9223372036854775808) : Int64) ∧ x.2 = C c x.1 := fun x hx => by
    have := gl_mem.mp (hp.mem_iff.mp hx)
    exact ⟨nbN this.2.1, this.2.2⟩
  refine List.Perm.eq_of_pairwise (le := sR (C c) f) (fun a b _ _ g1 g2 => sR_as g1 g2) ?_ h1 (List.Perm.trans ?_ h2.symm)
  · rw [List.pairwise_append, List.pairwise_map]
    refine ⟨?_, ?_, fun a ha b hb => ?_⟩
    · refine hs.imp_of_mem fun {x y} hx hy h => ?_
      have a1 := hL x hx
      have a2 := hL y hy
      refine Or.inr (Or.inr ⟨a1.1, a2.1, ?_⟩)
      rw [← a1.2, ← a2.2]
      exact h
    · refine (rs_pw (fun r => C c r == ((-9223372036854775808) : Int64)) n).imp_of_mem fun {x y} hx hy h => ?_
      exact Or.inr (Or.inl ⟨by simpa using rs_mem hx, by simpa using rs_mem hy, h⟩)
    · obtain ⟨x, hx, rfl⟩ := List.mem_map.mp ha
      exact Or.inl ⟨(hL x hx).1, by simpa using rs_mem hb⟩
  · have e := (hp.map Prod.fst).append_right (rs (fun r => C c r == ((-9223372036854775808) : Int64)) n)
    rw [gl_fst] at e
    exact e.trans (rs_all (C c) n)
end SR3
theorem op_sort (I : Ims) (s u : St) (a0 : Int32) (f : Bool) (h : Rl I s u) : Agr ["java/lang/IndexOutOfBoundsException"] (Rl I) (c_X3_sort s a0 (bI f)) (m_X4_sort u a0 (bI f)) := by
  obtain ⟨n, k, w, C, M, q, J, hW, hC, hM0, hI⟩ := h
  unfold c_X3_sort m_X4_sort
  have hM : RM n k w C M q J (sI u 0 0 0) := hM0.sI0 (Or.inl rfl)
  have ht : (sI u 0 0 0).1 0 0 = 0 := sIs
  generalize sI u 0 0 0 = u0 at hM ht ⊢
  simp only [needMask_eq, needWord_eq, needImage_eq, needColumn_eq hC hW, needRow_eq hC hW, needWidth_eq, xB_gX, isMask_eq, isWord_eq, isColumn_eq hM hW, isRow_eq hM hW, areIn_eq hM hW, isIn_eq, rg_if, needArgument_eq, needState_eq, Option.bind_some, if_bI, fails_eq, t64, I_m192, I_m62, I_m9, I_0, I_1, I_2, I_3, I_5, I_9, I_16, I_62, I_63, I_64, I_192, I_1000, L_m192, L_m62, L_m9, L_0, L_1, L_2, L_3, L_5, L_9, L_16, L_62, L_63, L_64, L_192, L_1000]
  by_cases h1 : inB a0 k = true
  case neg =>
    rw [Bool.not_eq_true] at h1
    simp only [h1, Bool.false_and, Bool.and_false, Bool.and_self, Bool.true_and, Bool.and_true, Bool.false_eq_true, eq_self, if_true, if_false, reduceIte, ite_self]
    exact Agr.err hW hI 0 rfl rfl rfl sIs hC (hM.sI0 (Or.inl rfl))
  simp only [h1, Bool.false_and, Bool.and_false, Bool.and_self, Bool.true_and, Bool.and_true, Bool.false_eq_true, eq_self, if_true, if_false, reduceIte, ite_self]
  obtain ⟨c, hc, rfl⟩ := inB_ex hW.k31 h1
  have hn := hW.hn
  rw [show c_X0_restart s = some (sI s 19 0 0) from rfl, Option.bind_some]
  refine Agr.bindC (srt1_wp (hC.sI (i := 19) (j := 0) (v := 0) (by decide)) hW hc (Pk.none (σ := s))) (fun τ hτ => ?_)
  refine Agr.bindC (order_wp f hτ.2 (gl_asc _ _ _)) (fun p hp => ?_)
  obtain ⟨-, ⟨L, hP, hpm, hst⟩, hoF⟩ := hp
  have hlen : L.length + fb_ct (fun r => C c r == ((-9223372036854775808) : Int64)) n = n := by
    rw [hpm.length_eq, gl_len]
    have h2 := fb_ct_not (fun r => C c r != ((-9223372036854775808) : Int64)) n
    rw [fb_ct_cong (p := fun r => C c r == ((-9223372036854775808) : Int64)) (q := fun r => !(C c r != ((-9223372036854775808) : Int64))) (fun r _ => by simp [bne])]
    exact h2
  refine Agr.bindC (srt2_wp (hτ.1.oF hoF) hW hc hP (by omega)) (fun τ2 hτ2 => ?_)
  refine Agr.bindM (srtM_wp (hM.sI0 (j := 16) (v := 0) (Or.inr (by decide))) (by rw [sIn (Or.inr (by decide))]; exact ht) hW hc (Od.none (u := u0)) f) (fun v hv => ?_)
  obtain ⟨hMv, htv, l, hO, hpw, hpr⟩ := hv
  have el := srt_eq f hpm hst hpw hpr
  have hPr := hτ2.2.toPr
  rw [List.map_append, pr_fst, el] at hPr
  have hll : l.length = n := by rw [hpr.length_eq, List.length_range]
  exact Agr.arr hW hI hτ2.1 hPr hMv htv hO (fun x hx => List.mem_range.mp (hpr.mem_iff.mp hx)) (by omega) (fun x _ => x)
