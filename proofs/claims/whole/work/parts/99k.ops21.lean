/-! ===== top ===== -/
theorem ge0 (a : Int32) : (0 ≤ a) = ((!decide (a < 0)) = true) := by
  apply propext
  rw [Bool.not_eq_true', decide_eq_false_iff_not, fa_le, fa_lt]
  omega
theorem bind2 {α β γ : Type} {o : Option α} {f : α → Option β} {kc : β → Option γ} {z : β} (e : (o.bind fun v => f v) = some z) : (o.bind fun v => (f v).bind kc) = kc z := by
  cases o with
  | none => cases e
  | some x =>
    rw [Option.bind_some] at e
    rw [Option.bind_some, e, Option.bind_some]
def bf (y x : Nat × Int64) : Bool := decide (x.2 < y.2) || (decide (y.2 = x.2) && decide (y.1 < x.1))
theorem bf_st {x y : Nat × Int64} (h : stR true y x) : bf y x = true := by
  have h1 := (leP_iff true y x).mp h.1
  rw [if_pos rfl] at h1
  unfold bf
  by_cases e : x.2 < y.2
  · rw [decide_eq_true e]; rfl
  · rw [fa_lt64] at e
    have e2 : y.2 = x.2 := Int64.toInt.inj (by omega)
    have h2 := h.2 ((leP_iff true x y).mpr (by rw [if_pos rfl]; omega))
    rw [decide_eq_true e2, decide_eq_true h2, Bool.and_self, Bool.or_true]
theorem bf_not {x y : Nat × Int64} (h : bf y x = true) : ¬ bf x y = true := by
  unfold bf at h ⊢
  simp only [Bool.or_eq_true, Bool.and_eq_true, decide_eq_true_eq, fa_lt64] at h ⊢
  rintro (g | g)
  · rcases h with h | h
    · omega
    · rw [h.1] at g; omega
  · rcases h with h | h
    · rw [g.1] at h; omega
    · omega
theorem bf_pos {L : List (Nat × Int64)} (h : L.Pairwise (stR true)) {i : Nat} {x : Nat × Int64} (hx : L[i]? = some x) : L.countP (fun y => bf y x) = i := by
  have hi := (List.getElem?_eq_some_iff.mp hx).1
  have e : L = L.take i ++ (x :: L.drop (i + 1)) := by
    rw [← drop_g hx, List.take_append_drop]
  have h2 : (L.take i ++ (x :: L.drop (i + 1))).Pairwise (stR true) := by rw [← e]; exact h
  have h3 := List.pairwise_append.mp h2
  have h4 := List.pairwise_cons.mp h3.2.1
  have e1 : L.countP (fun y => bf y x) = (L.take i).countP (fun y => bf y x) + (x :: L.drop (i + 1)).countP (fun y => bf y x) := by
    rw [← List.countP_append, ← e]
  have c1 : (L.take i).countP (fun y => bf y x) = i := by
    rw [List.countP_eq_length.mpr (fun y hy => bf_st (h3.2.2 y hy x List.mem_cons_self)), List.length_take]
    omega
  have c2 : (x :: L.drop (i + 1)).countP (fun y => bf y x) = 0 := by
    rw [List.countP_eq_zero]
    intro y hy
    rcases List.mem_cons.mp hy with rfl | hy
    · exact fun g => bf_not g g
    · exact bf_not (bf_st (h4.1 y hy))
  rw [e1, c1, c2]; rfl
theorem gl_countP (p : Nat → Bool) (g : Nat → Int64) (f : Nat × Int64 → Bool) : ∀ n, (gl p g n).countP f = fb_ct (fun r => p r && f (r, g r)) n
  | 0 => rfl
  | n + 1 => by
    rw [gl, List.countP_append, gl_countP p g f n, fb_ct_succ]
    congr 1
    cases hp : p n
    · rfl
    · rw [if_pos rfl, List.countP_singleton]
      rfl
section TOP
variable {n k : Nat} {w : Nat → Nat} {C : Nat → Nat → Int64} {M : Nat → Nat → Bool} {q : Int32} {σ u J : St} {c m r : Nat} {L : List (Nat × Int64)}
theorem aheadOf_eq (hM : RM n k w C M q J u) (hW : Wf n k w C M) (hc : c < k) (hm : m < 8) (hr : r < n) (hN : C c r ≠ ((-9223372036854775808) : Int64)) : m_X4_aheadOf u (nI c) (nI r) (nI m) = some (nI (fb_ct (fun x => (C c x != ((-9223372036854775808) : Int64) && M m x) && bf (x, C c x) (r, C c r)) n)) := by
  have hc6 := hW.c6 hc
  have hn := hW.hn
  unfold m_X4_aheadOf
  rw [lp_g (fun i => (nI (fb_ct (fun x => (C c x != ((-9223372036854775808) : Int64) && M m x) && bf (x, C c x) (r, C c r)) i), nI i)) n (nI (fb_ct (fun x => (C c x != ((-9223372036854775808) : Int64) && M m x) && bf (x, C c x) (r, C c r)) n)) ?_ hW.n5 (fun i hi => ?_) ?_]
  · rfl
  · rfl
  · show (if u.1 0 5 ≤ nI n then _ else _) = _
    rw [hM.rows, if_pos (geL n hW.n31)]
  · have hi2 := hW.r192 hi
    have hr2 := hW.r192 hr
    generalize hT : nI (fb_ct (fun x => (C c x != ((-9223372036854775808) : Int64) && M m x) && bf (x, C c x) (r, C c r)) i) = T
    show (if u.1 0 5 ≤ nI i then _ else (m_X4_hasUnder u (nI c) (nI i) (nI m)).bind fun v9 => ((if v9 = 0 then some T else ((m_X4_at u (nI c) (nI i)).bind fun v15 => ((ix v15 1152).bind fun j17 => ((m_X4_at u (nI c) (nI r)).bind fun v19 => ((ix v19 1152).bind fun j21 => ((if u.2 1 j21 < u.2 1 j17 then some (1 : Int32) else ((m_X4_at u (nI c) (nI r)).bind fun v27 => ((ix v27 1152).bind fun j29 => (if u.2 1 j17 = u.2 1 j29 then (if nI r ≤ nI i then some (0 : Int32) else some (1 : Int32)) else some (0 : Int32))))).bind fun (t23 : Int32) => ((m_X4_flag u t23).bind fun v33 => some (T + v33)))))))).bind fun (t11 : Int32) => some (Sum.inl (t11, (nI i + 1))))) = _
    rw [hM.rows, if_neg (ltL n hW.n31 hi), hasUnder_eq hM hW hc hi2 hm, Option.bind_some, if_bI]
    by_cases e : (C c i != ((-9223372036854775808) : Int64) && M m i) = true
    · have hN2 := nbN (Bool.and_eq_true_iff.mp e).1
      rw [if_pos e, at_eq, Option.bind_some, ixA hc6 hi2, Option.bind_some, at_eq, Option.bind_some, ixA hc6 hr2, Option.bind_some, Option.bind_some, ixA hc6 hr2, Option.bind_some, hM.cell hc hi hN2, hM.cell hc hr hN]
      have eb : (if C c r < C c i then some (1 : Int32) else (if C c i = C c r then (if nI r ≤ nI i then some (0 : Int32) else some (1 : Int32)) else some (0 : Int32))) = some (bI (bf (i, C c i) (r, C c r))) := by
        unfold bf
        by_cases g1 : C c r < C c i
        · rw [if_pos g1, decide_eq_true g1]; rfl
        · rw [if_neg g1, decide_eq_false g1]
          by_cases g2 : C c i = C c r
          · rw [if_pos g2, decide_eq_true g2]
            by_cases g3 : i < r
            · rw [if_neg (nlt g3 (by omega)), decide_eq_true g3]; rfl
            · rw [if_pos (nI_le (by omega) (by omega)), decide_eq_false g3]; rfl
          · rw [if_neg g2, decide_eq_false g2]; rfl
      rw [eb, Option.bind_some, flag_eq, Option.bind_some, Option.bind_some, nI_s, ← hT]
      have := ct_bI (fun x => (C c x != ((-9223372036854775808) : Int64) && M m x) && bf (x, C c x) (r, C c r)) i
      rw [← this]
      show _ = some (Sum.inl (_ + bI ((C c i != ((-9223372036854775808) : Int64) && M m i) && bf (i, C c i) (r, C c r)), _))
      rw [e, Bool.true_and]
    · rw [if_neg e, Option.bind_some, nI_s, ← hT, fb_ct_succ]
      show _ = some (Sum.inl (nI (_ + if ((C c i != ((-9223372036854775808) : Int64) && M m i) && bf (i, C c i) (r, C c r)) = true then 1 else 0), _))
      rw [Bool.not_eq_true _ |>.mp e, Bool.false_and]
      rfl
end TOP
theorem op_top (I : Ims) (s u : St) (a0 a1 a2 a3 : Int32) (h : Rl I s u) : Agr ["java/lang/IndexOutOfBoundsException", "java/lang/IllegalArgumentException"] (Rl I) (c_X3_top s a0 a1 a2 a3) (m_X4_top u a0 a1 a2 a3) := by
  obtain ⟨n, k, w, C, M, q, J, hW, hC, hM0, hI⟩ := h
  unfold c_X3_top m_X4_top
  have hM : RM n k w C M q J (sI u 0 0 0) := hM0.sI0 (Or.inl rfl)
  have ht : (sI u 0 0 0).1 0 0 = 0 := sIs
  generalize sI u 0 0 0 = u0 at hM ht ⊢
  simp only [s01, ge0]
  simp only [needMask_eq, needWord_eq, needImage_eq, needColumn_eq hC hW, needRow_eq hC hW, needWidth_eq, xB_gX, isMask_eq, isWord_eq, isColumn_eq hM hW, isRow_eq hM hW, areIn_eq hM hW, isIn_eq, rg_if, needArgument_eq, needState_eq, Option.bind_some, if_bI, fails_eq, t64, I_m192, I_m62, I_m9, I_0, I_1, I_2, I_3, I_5, I_9, I_16, I_62, I_63, I_64, I_192, I_1000, L_m192, L_m62, L_m9, L_0, L_1, L_2, L_3, L_5, L_9, L_16, L_62, L_63, L_64, L_192, L_1000]
  by_cases h1 : inB a0 8 = true
  case neg =>
    rw [Bool.not_eq_true] at h1
    simp only [h1, Bool.false_and, Bool.and_false, Bool.and_self, Bool.true_and, Bool.and_true, Bool.false_eq_true, eq_self, if_true, if_false, reduceIte, ite_self]
    exact Agr.err hW hI 0 rfl rfl rfl sIs hC (hM.sI0 (Or.inl rfl))
  by_cases h2 : inB a1 k = true
  case neg =>
    rw [Bool.not_eq_true] at h2
    simp only [h1, h2, Bool.false_and, Bool.and_false, Bool.and_self, Bool.true_and, Bool.and_true, Bool.false_eq_true, eq_self, if_true, if_false, reduceIte, ite_self]
    exact Agr.err hW hI 0 rfl rfl rfl sIs hC (hM.sI0 (Or.inl rfl))
  by_cases h3 : inB a2 8 = true
  case neg =>
    rw [Bool.not_eq_true] at h3
    simp only [h1, h2, h3, Bool.false_and, Bool.and_false, Bool.and_self, Bool.true_and, Bool.and_true, Bool.false_eq_true, eq_self, if_true, if_false, reduceIte, ite_self]
    exact Agr.err hW hI 0 rfl rfl rfl sIs hC (hM.sI0 (Or.inl rfl))
  by_cases h4 : (!decide (a3 < 0)) = true
  case neg =>
    rw [Bool.not_eq_true] at h4
    simp only [h1, h2, h3, h4, Bool.false_and, Bool.and_false, Bool.and_self, Bool.true_and, Bool.and_true, Bool.false_eq_true, eq_self, if_true, if_false, reduceIte, ite_self]
    exact Agr.err hW hI 1 rfl rfl rfl sIs hC (hM.sI0 (Or.inl rfl))
  simp only [h1, h2, h3, h4, Bool.false_and, Bool.and_false, Bool.and_self, Bool.true_and, Bool.and_true, Bool.false_eq_true, eq_self, if_true, if_false, reduceIte, ite_self]
  obtain ⟨m, hm, rfl⟩ := inB_ex (by decide) h1
  obtain ⟨c, hc, rfl⟩ := inB_ex hW.k31 h2
  obtain ⟨m2, hm2, rfl⟩ := inB_ex (by decide) h3
  obtain ⟨K, hK, rfl⟩ := nI_of (x := a3) (by rw [Bool.not_eq_true', decide_eq_false_iff_not] at h4; exact h4)
  have hc6 := hW.c6 hc
  have hn := hW.hn
  have hs := sorted_wp hC hW hc hm2 true
  rw [bI_t] at hs
  obtain ⟨z, ez, -, hCz, L, hP, hp, hst⟩ := hs
  have h192 := hP.2.1
  rw [bind2 ez, begin_eq, Option.bind_some]
  have hLn : ∀ x, x ∈ L → x.1 < n ∧ (C c x.1 != ((-9223372036854775808) : Int64) && M m2 x.1) = true ∧ x.2 = C c x.1 := fun x hx => gl_mem.mp (hp.mem_iff.mp hx)
  have hah : ∀ r i, L[i]? = some (r, C c r) → fb_ct (fun x => (C c x != ((-9223372036854775808) : Int64) && M m2 x) && bf (x, C c x) (r, C c r)) n = i := fun r i hi => by
    rw [← gl_countP (fun x => C c x != ((-9223372036854775808) : Int64) && M m2 x) (C c) (fun y => bf y (r, C c r)) n, ← hp.countP_eq]
    exact bf_pos hst hi
  have hset : ∀ r, decide (r ∈ (L.take K).map Prod.fst) = (decide (r < n) && ((C c r != ((-9223372036854775808) : Int64) && M m2 r) && decide (fb_ct (fun x => (C c x != ((-9223372036854775808) : Int64) && M m2 x) && bf (x, C c x) (r, C c r)) n < K))) := fun r => by
    rw [Bool.eq_iff_iff, decide_eq_true_eq, Bool.and_eq_true, Bool.and_eq_true, decide_eq_true_eq, decide_eq_true_eq]
    constructor
    · intro hr
      obtain ⟨x, hx, rfl⟩ := List.mem_map.mp hr
      obtain ⟨i, hi⟩ := List.mem_iff_getElem?.mp hx
      rw [List.getElem?_take] at hi
      split at hi
      · rename_i hiK
        obtain ⟨f1, f2, f3⟩ := hLn x (List.mem_of_mem_take hx)
        have ex : x = (x.1, C c x.1) := Prod.ext rfl f3
        rw [ex] at hi
        exact ⟨f1, f2, by rw [hah _ i hi]; exact hiK⟩
      · cases hi
    · rintro ⟨f1, f2, f3⟩
      have hm : (r, C c r) ∈ L := hp.mem_iff.mpr (gl_mem.mpr ⟨f1, f2, rfl⟩)
      obtain ⟨i, hi⟩ := List.mem_iff_getElem?.mp hm
      rw [hah r i hi] at f3
      refine List.mem_map.mpr ⟨(r, C c r), ?_, rfl⟩
      exact List.mem_iff_getElem?.mpr ⟨i, by rw [List.getElem?_take, if_pos f3]; exact hi⟩
  refine Agr.bindC (P := fun τ => RC n k w C M q τ ∧ Mk τ (fun r => decide (r ∈ (L.take K).map Prod.fst))) ?_ (fun τ hτ => ?_)
  · refine wp_lp L.length (fun i (y : Int32 × St) => y.1 = nI i ∧ i ≤ K ∧ Oc 26 z.2 y.2 ∧ Mk y.2 (fun r => decide (r ∈ (L.take i).map Prod.fst))) (by omega) ⟨rfl, Nat.zero_le _, show Oc 26 z.2 (fL z.2 26 0 (fun _ => 0) 3) from fL_oc, show Mk (fL z.2 26 0 (fun _ => 0) 3) _ from fun r hr => by rw [Mk_begin (σ := z.2) r hr]; rfl⟩ (fun i y hi hJ => ?_) (fun y hJ => ?_)
    · obtain ⟨y1, τ⟩ := y
      obtain ⟨e1, g1, g2, g3⟩ := hJ
      simp only at e1 g2 g3
      subst e1
      have hCt := hCz.oc (i := 26) (by decide) g2
      have e19 : τ.1 19 0 = nI L.length := by rw [(g2 19 (by decide)).1]; exact hP.1
      show wp (if τ.1 19 0 ≤ nI i then _ else (if nI K ≤ nI i then _ else _)) _
      rw [e19, if_neg (ltL _ (by omega) hi)]
      by_cases e : K ≤ i
      · rw [if_pos (nI_le e (by omega))]
        refine wp_some ⟨hCt, ?_⟩
        rw [show K = i by omega]
        exact g3
      · rw [if_neg (ltL _ hK (by omega)), ix192 (by omega), Option.bind_some]
        obtain ⟨x, ex⟩ := get_lt hi
        have e20 : τ.1 20 i = nI x.1 := by rw [(g2 20 (by decide)).1]; exact (hP.2.2 i x ex).1
        have hxn := (hLn x (List.mem_iff_getElem?.mpr ⟨i, ex⟩)).1
        rw [e20, include_eq hCt hW hxn, Option.bind_some, nI_s]
        refine wp_some ⟨rfl, by omega, fun j hj => ?_, fun r hr => ?_⟩
        · have g := inc_oc (σ := τ) (r := x.1) j hj
          exact ⟨g.1.trans (g2 j hj).1, g.2.trans (g2 j hj).2⟩
        · rw [(g3.put (show x.1 < 192 by omega)) r hr]
          have e2 : L.take (i + 1) = L.take i ++ [x] := by
            rw [List.take_succ_eq_append_getElem hi]
            rw [List.getElem?_eq_getElem hi] at ex
            rw [Option.some.inj ex]
          show (decide (r ∈ (L.take i).map Prod.fst) || decide (r = x.1)) = decide (r ∈ (L.take (i + 1)).map Prod.fst)
          rw [e2, List.map_append, Bool.eq_iff_iff, Bool.or_eq_true, decide_eq_true_eq, decide_eq_true_eq, decide_eq_true_eq, List.mem_append]
          constructor
          · rintro (a | a)
            · exact Or.inl a
            · exact Or.inr (by rw [a]; exact List.mem_singleton.mpr rfl)
          · rintro (a | a)
            · exact Or.inl a
            · exact Or.inr (List.mem_singleton.mp a)
    · obtain ⟨y1, τ⟩ := y
      obtain ⟨e1, g1, g2, g3⟩ := hJ
      simp only at e1 g2 g3
      subst e1
      have hCt := hCz.oc (i := 26) (by decide) g2
      have e19 : τ.1 19 0 = nI L.length := by rw [(g2 19 (by decide)).1]; exact hP.1
      show wp (if τ.1 19 0 ≤ nI L.length then _ else _) _
      rw [e19, if_pos (geL _ (by omega))]
      refine wp_some ⟨hCt, ?_⟩
      rw [List.take_of_length_le g1]
      rw [List.take_of_length_le (Nat.le_refl _)] at g3
      exact g3
  · have lays : m_X4_laysNone u0 = some (fI u0 5 0 (fun _ => bI false) 192) := by
      unfold m_X4_laysNone
      rw [mmade (fun _ => false) hM (fun i u' hi _ => ?_) (fun u' => if_pos ge192)]
      · rfl
      · simp only [if_neg (lt192 hi), ix192 hi, Option.bind_some, nI_s]
        rfl
    rw [lays, Option.bind_some]
    have hMk : Mk τ (fun r => decide (r < n) && ((C c r != ((-9223372036854775808) : Int64) && M m2 r) && decide (fb_ct (fun x => (C c x != ((-9223372036854775808) : Int64) && M m2 x) && bf (x, C c x) (r, C c r)) n < K))) := fun r hr => by
      rw [hτ.2 r hr]
      exact hset r
    refine Agr.bindM (P := fun v => v = fI (fI u0 5 0 (fun _ => bI false) 192) 5 0 (fun r => bI ((C c r != ((-9223372036854775808) : Int64) && M m2 r) && decide (fb_ct (fun x => (C c x != ((-9223372036854775808) : Int64) && M m2 x) && bf (x, C c x) (r, C c r)) n < K))) n) ?_ (fun v hv => ?_)
    · refine ⟨_, lp_g (fun i => (nI i, fI (fI u0 5 0 (fun _ => bI false) 192) 5 0 (fun r => bI ((C c r != ((-9223372036854775808) : Int64) && M m2 r) && decide (fb_ct (fun x => (C c x != ((-9223372036854775808) : Int64) && M m2 x) && bf (x, C c x) (r, C c r)) n < K))) i)) n _ ?_ hW.n5 (fun i hi => ?_) ?_, rfl⟩
      · rw [fI_0]; rfl
      · have hi2 := hW.r192 hi
        have hM1 := (hM.oc (i := 5) (by decide) (fI_oc (o := 0) (n := 192) (f := fun _ => bI false))).oc (i := 5) (by decide) (fI_oc (o := 0) (n := i) (f := fun r => bI ((C c r != ((-9223372036854775808) : Int64) && M m2 r) && decide (fb_ct (fun x => (C c x != ((-9223372036854775808) : Int64) && M m2 x) && bf (x, C c x) (r, C c r)) n < K))))
        have hst2 := fI_s0 (fI u0 5 0 (fun _ => bI false) 192) 5 (fun r => bI ((C c r != ((-9223372036854775808) : Int64) && M m2 r) && decide (fb_ct (fun x => (C c x != ((-9223372036854775808) : Int64) && M m2 x) && bf (x, C c x) (r, C c r)) n < K))) i
        rw [← hst2]
        generalize fI (fI u0 5 0 (fun _ => bI false) 192) 5 0 (fun r => bI ((C c r != ((-9223372036854775808) : Int64) && M m2 r) && decide (fb_ct (fun x => (C c x != ((-9223372036854775808) : Int64) && M m2 x) && bf (x, C c x) (r, C c r)) n < K))) i = v at hM1
        show (if v.1 0 5 ≤ nI i then _ else (m_X4_hasUnder v (nI c) (nI i) (nI m2)).bind fun v20 => ((if v20 = 0 then some (0 : Int32) else ((m_X4_aheadOf v (nI c) (nI i) (nI m2)).bind fun v26 => some (bI (!decide (nI K ≤ v26))))).bind fun (t22 : Int32) => ((ix (nI i) 192).bind fun j29 => some (Sum.inl ((nI i + 1), (sI v 5 j29 (nz t22))))))) = _
        rw [hM1.rows, if_neg (ltL n hW.n31 hi), hasUnder_eq hM1 hW hc hi2 hm2, Option.bind_some, if_bI]
        by_cases e : (C c i != ((-9223372036854775808) : Int64) && M m2 i) = true
        · have hN := nbN (Bool.and_eq_true_iff.mp e).1
          rw [if_pos e, aheadOf_eq hM1 hW hc hm2 hi hN, Option.bind_some, Option.bind_some, ix192 hi2, Option.bind_some, nz_bI, nI_s, e, Bool.true_and]
          have hle := fb_ct_le (fun x => (C c x != ((-9223372036854775808) : Int64) && M m2 x) && bf (x, C c x) (i, C c i)) n
          have : (!decide (nI K ≤ nI (fb_ct (fun x => (C c x != ((-9223372036854775808) : Int64) && M m2 x) && bf (x, C c x) (i, C c i)) n))) = decide (fb_ct (fun x => (C c x != ((-9223372036854775808) : Int64) && M m2 x) && bf (x, C c x) (i, C c i)) n < K) := by
            rw [Bool.eq_iff_iff, Bool.not_eq_true', decide_eq_false_iff_not, decide_eq_true_eq, nI_leI hK (by omega)]
            omega
          rw [this]
        · rw [if_neg e, Option.bind_some, ix192 hi2, Option.bind_some, nI_s, Bool.not_eq_true _ |>.mp e, Bool.false_and]
          rfl
      · have hM1 := (hM.oc (i := 5) (by decide) (fI_oc (o := 0) (n := 192) (f := fun _ => bI false))).oc (i := 5) (by decide) (fI_oc (o := 0) (n := n) (f := fun r => bI ((C c r != ((-9223372036854775808) : Int64) && M m2 r) && decide (fb_ct (fun x => (C c x != ((-9223372036854775808) : Int64) && M m2 x) && bf (x, C c x) (r, C c r)) n < K))))
        exact if_pos (by
          dsimp only
          rw [hM1.rows]; exact geL n hW.n31)
    · subst hv
      have hM1 := (hM.oc (i := 5) (by decide) (fI_oc (o := 0) (n := 192) (f := fun _ => bI false))).oc (i := 5) (by decide) (fI_oc (o := 0) (n := n) (f := fun r => bI ((C c r != ((-9223372036854775808) : Int64) && M m2 r) && decide (fb_ct (fun x => (C c x != ((-9223372036854775808) : Int64) && M m2 x) && bf (x, C c x) (r, C c r)) n < K))))
      exact mask_end hW hI hτ.1 hMk hM1 (fun r hr => fI_in0 hr) (by rw [fI_ne (by decide), fI_ne (by decide)]; exact ht) hm
