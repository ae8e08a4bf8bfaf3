/-! ===== count, rank, ones, fold ===== -/
theorem lp_listE {A X S R : Type} {f : S → Option (S ⊕ R)} {s0 : S} (enc : A → Int32 → S) (out : A → R) (l : List X) (h : A → X → A) (a0 : A) (h0 : s0 = enc a0 0) (hl : l.length ≤ 192) (hs : ∀ i x a, l[i]? = some x → f (enc a (nI i)) = some (.inl (enc (h a x) (nI (i + 1))))) (hx : ∀ a, f (enc a (nI l.length)) = some (.inr (out a))) : lp 5000 f s0 = some (out (l.foldl h a0)) := by
  refine lp_g (fun i => enc ((l.take i).foldl h a0) (nI i)) l.length _ h0 (by omega) (fun i hi => ?_) ?_
  · rw [hs i _ _ (List.getElem?_eq_getElem hi), List.take_succ_eq_append_getElem hi, List.foldl_append]
    rfl
  · show f (enc ((l.take l.length).foldl h a0) (nI l.length)) = _
    rw [List.take_length, hx]
theorem perm_fold32 {l₁ l₂ : List Int64} (p : l₁.Perm l₂) (g : Int64 → Int32) (a : Int32) : l₁.foldl (fun a x => a + g x) a = l₂.foldl (fun a x => a + g x) a := p.foldl_eq' (fun x _ y _ z => by
  rw [Int32.add_assoc, Int32.add_comm (g x), ← Int32.add_assoc]) a
theorem perm_fold64 {l₁ l₂ : List Int64} (p : l₁.Perm l₂) (g : Int64 → Int64) (a : Int64) : l₁.foldl (fun a x => a + g x) a = l₂.foldl (fun a x => a + g x) a := p.foldl_eq' (fun x _ y _ z => by
  rw [Int64.add_assoc, Int64.add_comm (g x), ← Int64.add_assoc]) a
theorem Pk.get {σ : St} {l : List (Nat × Int64)} (h : Pk σ l) {i : Nat} {x : Nat × Int64} (e : l[i]? = some x) : i < 192 ∧ i < l.length ∧ σ.1 20 i = nI x.1 ∧ σ.2 21 i = x.2 := by
  have h1 := (List.getElem?_eq_some_iff.mp e).1
  have h2 := h.2.1
  exact ⟨by omega, h1, h.2.2 i x e⟩
theorem Ls.get {u : St} {l : List Int64} (h : Ls u l) {i : Nat} {x : Int64} (e : l[i]? = some x) : i < 192 ∧ i < l.length ∧ u.2 6 i = x := by
  have h1 := (List.getElem?_eq_some_iff.mp e).1
  have h2 := h.2.1
  exact ⟨by omega, h1, h.2.2 i x e⟩
theorem op_count (I : Ims) (s u : St) (a0 a1 : Int32) (h : Rl I s u) : Agr ["java/lang/IndexOutOfBoundsException"] (Rl I) (c_X3_count s a0 a1) (m_X4_count u a0 a1) := by
  obtain ⟨n, k, w, C, M, q, J, hW, hC, hM0, hI⟩ := h
  unfold c_X3_count m_X4_count
  have hM : RM n k w C M q J (sI u 0 0 0) := hM0.sI0 (Or.inl rfl)
  have ht : (sI u 0 0 0).1 0 0 = 0 := sIs
  generalize sI u 0 0 0 = u0 at hM ht ⊢
  simp only [needMask_eq, needWord_eq, needImage_eq, needColumn_eq hC hW, needRow_eq hC hW, needWidth_eq, xB_gX, isMask_eq, isWord_eq, isColumn_eq hM hW, isRow_eq hM hW, areIn_eq hM hW, isIn_eq, rg_if, needArgument_eq, needState_eq, Option.bind_some, if_bI, fails_eq, t64, I_m192, I_m62, I_m9, I_0, I_1, I_2, I_3, I_5, I_9, I_16, I_62, I_63, I_64, I_192, I_1000, L_m192, L_m62, L_m9, L_0, L_1, L_2, L_3, L_5, L_9, L_16, L_62, L_63, L_64, L_192, L_1000]
  by_cases h1 : inB a0 k = true
  case neg =>
    rw [Bool.not_eq_true] at h1
    simp only [h1, Bool.false_and, Bool.and_false, Bool.and_self, Bool.true_and, Bool.and_true, Bool.false_eq_true, eq_self, if_true, if_false, reduceIte, ite_self]
    exact Agr.err hW hI 0 rfl rfl rfl sIs hC (hM.sI0 (Or.inl rfl))
  by_cases h2 : inB a1 8 = true
  case neg =>
    rw [Bool.not_eq_true] at h2
    simp only [h1, h2, Bool.false_and, Bool.and_false, Bool.and_self, Bool.true_and, Bool.and_true, Bool.false_eq_true, eq_self, if_true, if_false, reduceIte, ite_self]
    exact Agr.err hW hI 0 rfl rfl rfl sIs hC (hM.sI0 (Or.inl rfl))
  simp only [h1, h2, Bool.false_and, Bool.and_false, Bool.and_self, Bool.true_and, Bool.and_true, Bool.false_eq_true, eq_self, if_true, if_false, reduceIte, ite_self]
  obtain ⟨c, hc, rfl⟩ := inB_ex hW.k31 h1
  obtain ⟨m, hm, rfl⟩ := inB_ex (by decide) h2
  refine Agr.bindC (gather_wp hC hW hc hm) (fun τ hτ => ?_)
  refine Agr.bindM (lists_wp hM hW hc hm ht) (fun v hv => ?_)
  obtain ⟨hMv, htv, l, hl, hs, hp⟩ := hv
  rw [hτ.2.1, hl.1]
  have : l.length = (gl (fun r => C c r != ((-9223372036854775808) : Int64) && M m r) (C c) n).length := by
    rw [hp.length_eq, List.length_map]
  rw [this]
  exact Agr.ok hW hI rfl rfl htv hτ.1 hMv
theorem howMany_eq {σ : St} {l : List (Nat × Int64)} (h : Pk σ l) (how : Int32) (v : Int64) : c_X0_howMany σ how v = some ((l.map Prod.snd).foldl (fun a x => a + bI (stB x how v)) 0) := by
  unfold c_X0_howMany
  rw [lp_listE (fun a i => (a, i)) (fun a => a) l (fun a x => a + bI (stB x.2 how v)) 0 rfl h.2.1 (fun i x a e => ?_) (fun a => ?_), Option.bind_some, List.foldl_map]
  · obtain ⟨h1, h2, h3, h4⟩ := h.get e
    simp only [h.1, if_neg (ltL l.length (by have := h.2.1; omega) h2), ix192 h1, Option.bind_some, h4, stands_eq, if_bI, nI_s]
    cases stB x.2 how v <;> rfl
  · simp only [h.1]
    exact if_pos (geL l.length (by have := h.2.1; omega))
theorem op_rank (I : Ims) (s u : St) (a0 a1 : Int32) (a2 : Int64) (a3 : Int32) (h : Rl I s u) : Agr ["java/lang/IndexOutOfBoundsException", "java/lang/IllegalArgumentException"] (Rl I) (c_X3_rank s a0 a1 a2 a3) (m_X4_rank u a0 a1 a2 a3) := by
  obtain ⟨n, k, w, C, M, q, J, hW, hC, hM0, hI⟩ := h
  unfold c_X3_rank m_X4_rank
  have hM : RM n k w C M q J (sI u 0 0 0) := hM0.sI0 (Or.inl rfl)
  have ht : (sI u 0 0 0).1 0 0 = 0 := sIs
  generalize sI u 0 0 0 = u0 at hM ht ⊢
  simp only [needMask_eq, needWord_eq, needImage_eq, needColumn_eq hC hW, needRow_eq hC hW, needWidth_eq, xB_gX, isMask_eq, isWord_eq, isColumn_eq hM hW, isRow_eq hM hW, areIn_eq hM hW, isIn_eq, rg_if, needArgument_eq, needState_eq, Option.bind_some, if_bI, fails_eq, t64, I_m192, I_m62, I_m9, I_0, I_1, I_2, I_3, I_5, I_9, I_16, I_62, I_63, I_64, I_192, I_1000, L_m192, L_m62, L_m9, L_0, L_1, L_2, L_3, L_5, L_9, L_16, L_62, L_63, L_64, L_192, L_1000]
  by_cases h1 : inB a0 k = true
  case neg =>
    rw [Bool.not_eq_true] at h1
    simp only [h1, Bool.false_and, Bool.and_false, Bool.and_self, Bool.true_and, Bool.and_true, Bool.false_eq_true, eq_self, if_true, if_false, reduceIte, ite_self]
    exact Agr.err hW hI 0 rfl rfl rfl sIs hC (hM.sI0 (Or.inl rfl))
  by_cases h2 : inB a1 8 = true
  case neg =>
    rw [Bool.not_eq_true] at h2
    simp only [h1, h2, Bool.false_and, Bool.and_false, Bool.and_self, Bool.true_and, Bool.and_true, Bool.false_eq_true, eq_self, if_true, if_false, reduceIte, ite_self]
    exact Agr.err hW hI 0 rfl rfl rfl sIs hC (hM.sI0 (Or.inl rfl))
  by_cases h3 : rg a3.toInt 0 2 = true
  case neg =>
    rw [Bool.not_eq_true] at h3
    simp only [h1, h2, h3, Bool.false_and, Bool.and_false, Bool.and_self, Bool.true_and, Bool.and_true, Bool.false_eq_true, eq_self, if_true, if_false, reduceIte, ite_self]
    exact Agr.err hW hI 1 rfl rfl rfl sIs hC (hM.sI0 (Or.inl rfl))
  simp only [h1, h2, h3, Bool.false_and, Bool.and_false, Bool.and_self, Bool.true_and, Bool.and_true, Bool.false_eq_true, eq_self, if_true, if_false, reduceIte, ite_self]
  obtain ⟨c, hc, rfl⟩ := inB_ex hW.k31 h1
  obtain ⟨m, hm, rfl⟩ := inB_ex (by decide) h2
  refine Agr.bindC (gather_wp hC hW hc hm) (fun τ hτ => ?_)
  refine Agr.bindM (lists_wp hM hW hc hm ht) (fun v hv => ?_)
  obtain ⟨hMv, htv, l, hl, hs, hp⟩ := hv
  have hl5 : l.length < 2 ^ 31 := by have := hl.2.1; omega
  have key : ∀ how : Int32, (if a3 = 0 then some (0 : Int32) else (if a3 = (1 : Int32) then some (2 : Int32) else some (5 : Int32))) = some how → Agr ["java/lang/IndexOutOfBoundsException", "java/lang/IllegalArgumentException"] (Rl I) ((c_X0_howMany τ how a2).bind fun v27 => some (.ok v27, τ)) ((lp 5000 (fun (s9 : Int32 × Int32) => (if v.1 0 10 ≤ s9.2 then some (.inr s9.1) else ((ix s9.2 192).bind fun j17 => ((if a3 = 0 then some (0 : Int32) else (if a3 = (1 : Int32) then some (2 : Int32) else some (5 : Int32))).bind fun (t19 : Int32) => ((m_X4_isSo v (v.2 6 j17) t19 a2).bind fun v24 => ((m_X4_flag v v24).bind fun v26 => some (.inl ((s9.1 + v26), (s9.2 + 1))))))))) ((0 : Int32), (0 : Int32))).bind fun (r10 : Int32) => some (r10, v)) := by
    intro how eh
    rw [howMany_eq hτ.2, eh]
    rw [lp_listE (fun a i => (a, i)) (fun a => a) l (fun a x => a + bI (stB x how a2)) 0 rfl hl.2.1 (fun i x a e => ?_) (fun a => ?_)]
    · rw [perm_fold32 hp]
      exact Agr.ok hW hI rfl rfl htv hτ.1 hMv
    · obtain ⟨g1, g2, g3⟩ := hl.get e
      simp only [hl.1, if_neg (ltL l.length hl5 g2), ix192 g1, Option.bind_some, g3, isSo_eq, flag_eq, nI_s]
    · simp only [hl.1]
      exact if_pos (geL l.length hl5)
  by_cases e0 : a3 = 0
  · have := key 0 (by rw [if_pos e0])
    rw [if_pos e0]
    exact this
  · by_cases e1 : a3 = 1
    · have := key 2 (by rw [if_neg e0, if_pos e1])
      simp only [if_neg e0, if_pos e1, Option.bind_some] at this ⊢
      exact this
    · have := key 5 (by rw [if_neg e0, if_neg e1])
      simp only [if_neg e0, if_neg e1, Option.bind_some] at this ⊢
      exact this
theorem op_ones (I : Ims) (s u : St) (a0 a1 a2 : Int32) (h : Rl I s u) : Agr ["java/lang/IndexOutOfBoundsException"] (Rl I) (c_X3_ones s a0 a1 a2) (m_X4_ones u a0 a1 a2) := by
  obtain ⟨n, k, w, C, M, q, J, hW, hC, hM0, hI⟩ := h
  unfold c_X3_ones m_X4_ones
  have hM : RM n k w C M q J (sI u 0 0 0) := hM0.sI0 (Or.inl rfl)
  have ht : (sI u 0 0 0).1 0 0 = 0 := sIs
  generalize sI u 0 0 0 = u0 at hM ht ⊢
  simp only [needMask_eq, needWord_eq, needImage_eq, needColumn_eq hC hW, needRow_eq hC hW, needWidth_eq, xB_gX, isMask_eq, isWord_eq, isColumn_eq hM hW, isRow_eq hM hW, areIn_eq hM hW, isIn_eq, rg_if, needArgument_eq, needState_eq, Option.bind_some, if_bI, fails_eq, t64, I_m192, I_m62, I_m9, I_0, I_1, I_2, I_3, I_5, I_9, I_16, I_62, I_63, I_64, I_192, I_1000, L_m192, L_m62, L_m9, L_0, L_1, L_2, L_3, L_5, L_9, L_16, L_62, L_63, L_64, L_192, L_1000]
  by_cases h1 : inB a0 k = true
  case neg =>
    rw [Bool.not_eq_true] at h1
    simp only [h1, Bool.false_and, Bool.and_false, Bool.and_self, Bool.true_and, Bool.and_true, Bool.false_eq_true, eq_self, if_true, if_false, reduceIte, ite_self]
    exact Agr.err hW hI 0 rfl rfl rfl sIs hC (hM.sI0 (Or.inl rfl))
  simp only [h1, Bool.false_and, Bool.and_false, Bool.and_self, Bool.true_and, Bool.and_true, Bool.false_eq_true, eq_self, if_true, if_false, reduceIte, ite_self]
  obtain ⟨c, hc, rfl⟩ := inB_ex hW.k31 h1
  have hc6 := hW.c6 hc
  have hw := hW.hw hc
  have ew : (nI (w c) - 1).toInt = (w c : Int) - 1 := by
    rw [show (1 : Int32) = nI 1 from rfl, pk_sub_toInt (by omega) (by decide)]
    rfl
  simp only [needBit_eq hC hW hc, xB_gX, ix6 hc6, Option.bind_some, hM.wid hc, ew, rg_inB]
  by_cases h2 : inB a1 (w c) = true
  case neg =>
    rw [Bool.not_eq_true] at h2
    simp only [h1, h2, Bool.false_and, Bool.and_false, Bool.and_self, Bool.true_and, Bool.and_true, Bool.false_eq_true, eq_self, if_true, if_false, reduceIte, ite_self]
    exact Agr.err hW hI 0 rfl rfl rfl sIs hC (hM.sI0 (Or.inl rfl))
  by_cases h3 : inB a2 8 = true
  case neg =>
    rw [Bool.not_eq_true] at h3
    simp only [h1, h2, h3, Bool.false_and, Bool.and_false, Bool.and_self, Bool.true_and, Bool.and_true, Bool.false_eq_true, eq_self, if_true, if_false, reduceIte, ite_self]
    exact Agr.err hW hI 0 rfl rfl rfl sIs hC (hM.sI0 (Or.inl rfl))
  simp only [h1, h2, h3, Bool.false_and, Bool.and_false, Bool.and_self, Bool.true_and, Bool.and_true, Bool.false_eq_true, eq_self, if_true, if_false, reduceIte, ite_self]
  obtain ⟨b, hb, rfl⟩ := inB_ex (by omega) h2
  obtain ⟨m, hm, rfl⟩ := inB_ex (by decide) h3
  refine Agr.bindC (gather_wp hC hW hc hm) (fun τ hτ => ?_)
  refine Agr.bindM (lists_wp hM hW hc hm ht) (fun v hv => ?_)
  obtain ⟨hMv, htv, l, hl, hs, hp⟩ := hv
  have hl5 : l.length < 2 ^ 31 := by have := hl.2.1; omega
  have hg5 : (gl (fun r => C c r != ((-9223372036854775808) : Int64) && M m r) (C c) n).length < 2 ^ 31 := by have := hτ.2.2.1; omega
  have hb64 : b < 64 := by omega
  rw [lp_listE (fun a i => (a, i)) (fun a => a) (gl (fun r => C c r != ((-9223372036854775808) : Int64) && M m r) (C c) n) (fun a x => a + bI (lb x.2 b)) 0 rfl hτ.2.2.1 (fun i x a e => ?_) (fun a => ?_)]
  rw [lp_listE (fun a i => (a, i)) (fun a => a) l (fun a x => a + bI (lb x b)) 0 rfl hl.2.1 (fun i x a e => ?_) (fun a => ?_)]
  · rw [perm_fold32 hp (fun x => bI (lb x b)), List.foldl_map]
    exact Agr.ok hW hI rfl rfl htv hτ.1 hMv
  · obtain ⟨g1, g2, g3⟩ := hl.get e
    simp only [hl.1, if_neg (ltL l.length hl5 g2), ix192 g1, Option.bind_some, g3, lb_ask hb64, nI_s]
    cases lb x b <;> rfl
  · simp only [hl.1]
    exact if_pos (geL l.length hl5)
  · obtain ⟨g1, g2, g3, g4⟩ := hτ.2.get e
    simp only [hτ.2.1, if_neg (ltL _ hg5 g2), ix192 g1, Option.bind_some, g4, hasBit_eq _ _ hb64, if_bI, nI_s]
    cases lb x.2 b <;> rfl
  · simp only [hτ.2.1]
    exact if_pos (geL _ hg5)
def fdJ (how : Int32) (a x : Int64) : Int64 := if how = 0 then a &&& x else if how = 1 then a ||| x else a ^^^ x
theorem op_fold (I : Ims) (s u : St) (a0 a1 a2 : Int32) (h : Rl I s u) : Agr ["java/lang/IndexOutOfBoundsException", "java/lang/IllegalArgumentException"] (Rl I) (c_X3_fold s a0 a1 a2) (m_X4_fold u a0 a1 a2) := by
  obtain ⟨n, k, w, C, M, q, J, hW, hC, hM0, hI⟩ := h
  unfold c_X3_fold m_X4_fold
  have hM : RM n k w C M q J (sI u 0 0 0) := hM0.sI0 (Or.inl rfl)
  have ht : (sI u 0 0 0).1 0 0 = 0 := sIs
  generalize sI u 0 0 0 = u0 at hM ht ⊢
  simp only [needMask_eq, needWord_eq, needImage_eq, needColumn_eq hC hW, needRow_eq hC hW, needWidth_eq, xB_gX, isMask_eq, isWord_eq, isColumn_eq hM hW, isRow_eq hM hW, areIn_eq hM hW, isIn_eq, rg_if, needArgument_eq, needState_eq, Option.bind_some, if_bI, fails_eq, t64, I_m192, I_m62, I_m9, I_0, I_1, I_2, I_3, I_5, I_9, I_16, I_62, I_63, I_64, I_192, I_1000, L_m192, L_m62, L_m9, L_0, L_1, L_2, L_3, L_5, L_9, L_16, L_62, L_63, L_64, L_192, L_1000]
  by_cases h1 : inB a0 k = true
  case neg =>
    rw [Bool.not_eq_true] at h1
    simp only [h1, Bool.false_and, Bool.and_false, Bool.and_self, Bool.true_and, Bool.and_true, Bool.false_eq_true, eq_self, if_true, if_false, reduceIte, ite_self]
    exact Agr.err hW hI 0 rfl rfl rfl sIs hC (hM.sI0 (Or.inl rfl))
  by_cases h2 : inB a1 8 = true
  case neg =>
    rw [Bool.not_eq_true] at h2
    simp only [h1, h2, Bool.false_and, Bool.and_false, Bool.and_self, Bool.true_and, Bool.and_true, Bool.false_eq_true, eq_self, if_true, if_false, reduceIte, ite_self]
    exact Agr.err hW hI 0 rfl rfl rfl sIs hC (hM.sI0 (Or.inl rfl))
  by_cases h3 : rg a2.toInt 0 2 = true
  case neg =>
    rw [Bool.not_eq_true] at h3
    simp only [h1, h2, h3, Bool.false_and, Bool.and_false, Bool.and_self, Bool.true_and, Bool.and_true, Bool.false_eq_true, eq_self, if_true, if_false, reduceIte, ite_self]
    exact Agr.err hW hI 1 rfl rfl rfl sIs hC (hM.sI0 (Or.inl rfl))
  simp only [h1, h2, h3, Bool.false_and, Bool.and_false, Bool.and_self, Bool.true_and, Bool.and_true, Bool.false_eq_true, eq_self, if_true, if_false, reduceIte, ite_self]
  obtain ⟨c, hc, rfl⟩ := inB_ex hW.k31 h1
  obtain ⟨m, hm, rfl⟩ := inB_ex (by decide) h2
  have hc6 := hW.c6 hc
  have hb := rg_t h3
  refine Agr.bindC (gather_wp hC hW hc hm) (fun τ hτ => ?_)
  have hg5 : (gl (fun r => C c r != ((-9223372036854775808) : Int64) && M m r) (C c) n).length < 2 ^ 31 := by have := hτ.2.2.1; omega
  have jn : ∀ a x : Int64, c_X3_joined τ a x a2 = some (fdJ a2 a x) := fun a x => by
    unfold c_X3_joined fdJ
    by_cases e0 : a2 = 0
    · rw [if_pos e0, if_pos e0]
    · rw [if_neg e0, if_neg e0]
      by_cases e1 : a2 = 1
      · rw [if_pos e1, if_pos e1]
      · have e2 : a2 = 2 := by
          have n0 : a2.toInt ≠ 0 := fun q => e0 (by rw [fa_eq, q, I_0])
          have n1 : a2.toInt ≠ 1 := fun q => e1 (by rw [fa_eq, q, I_1])
          rw [fa_eq, I_2]; omega
        rw [if_neg e1, if_neg e1, if_pos e2]
  have e7 : (if a2 = 0 then some ((-1) : Int64) else some (0 : Int64)) = some (if a2 = 0 then (-1) else 0) := by split <;> rfl
  rw [e7, Option.bind_some, Option.bind_some]
  rw [lp_listE (fun a i => (a, i)) (fun a => a) (gl (fun r => C c r != ((-9223372036854775808) : Int64) && M m r) (C c) n) (fun a x => fdJ a2 a x.2) (if a2 = 0 then (-1) else 0) rfl hτ.2.2.1 (fun i x a e => ?_) (fun a => ?_)]
  rw [lp_g (fun i => ((gl (fun r => C c r != ((-9223372036854775808) : Int64) && M m r) (C c) i).foldl (fun a x => fdJ a2 a x.2) (if a2 = 0 then (-1) else 0), nI i)) n ((gl (fun r => C c r != ((-9223372036854775808) : Int64) && M m r) (C c) n).foldl (fun a x => fdJ a2 a x.2) (if a2 = 0 then (-1) else 0)) ?_ hW.n5 ?_ ?_]
  · exact Agr.ok hW hI rfl rfl ht hτ.1 hM
  · rfl
  · intro i hi
    have hi2 := hW.r192 hi
    simp only [hM.rows, if_neg (ltL n hW.n31 hi), hasUnder_eq hM hW hc hi2 hm, Option.bind_some, if_bI]
    by_cases e : (C c i != ((-9223372036854775808) : Int64) && M m i) = true
    · have hN := nbN (Bool.and_eq_true_iff.mp e).1
      rw [if_pos e, at_eq, Option.bind_some, ixA hc6 hi2, Option.bind_some, hM.cell hc hi hN, gl, if_pos e, List.foldl_append, nI_s i]
      generalize (gl (fun r => C c r != ((-9223372036854775808) : Int64) && M m r) (C c) i).foldl (fun a x => fdJ a2 a x.2) (if a2 = 0 then (-1) else 0) = A
      show _ = some (Sum.inl (fdJ a2 A (C c i), _))
      unfold fdJ
      by_cases e0 : a2 = 0
      · rw [if_pos e0, if_pos e0]; rfl
      · rw [if_neg e0, if_neg e0]
        by_cases e1 : a2 = 1
        · rw [if_pos e1, if_pos e1]; rfl
        · rw [if_neg e1, if_neg e1]; rfl
    · rw [if_neg e, Option.bind_some, gl, if_neg e, List.append_nil, nI_s i]
  · simp only [hM.rows]
    exact if_pos (geL n hW.n31)
  · obtain ⟨g1, g2, g3, g4⟩ := hτ.2.get e
    simp only [hτ.2.1, if_neg (ltL _ hg5 g2), ix192 g1, Option.bind_some, g4, jn, nI_s]
  · simp only [hτ.2.1]
    exact if_pos (geL _ hg5)
