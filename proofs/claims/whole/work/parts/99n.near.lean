/-! ===== nearest ===== -/
def uI (x : Int64) : Int := if x.toInt < 0 then x.toInt + 18446744073709551616 else x.toInt
def dI (a b : Int) : Int := if a ≤ b then b - a else a - b
theorem L_N : (((-9223372036854775808) : Int64)).toInt = -9223372036854775808 := by decide
theorem rgL (x : Int64) : -9223372036854775808 ≤ x.toInt ∧ x.toInt ≤ 9223372036854775807 := by
  have h1 := Int64.le_toInt x
  have h2 := Int64.toInt_lt x
  constructor <;> omega
theorem uI_N (x : Int64) : (x + ((-9223372036854775808) : Int64)).toInt = uI x - 9223372036854775808 := by
  have h := rgL x
  rw [Int64.toInt_add, L_N, Int.bmod_def]
  unfold uI
  split <;> split <;> omega
theorem uI_sub {x y : Int64} (h : y.toInt ≤ x.toInt) : uI (x - y) = x.toInt - y.toInt := by
  have h1 := rgL x
  have h2 := rgL y
  unfold uI
  rw [Int64.toInt_sub, Int.bmod_def]
  split <;> split <;> omega
theorem lessBare_eq (σ : St) (a b : Int64) : m_X4_isLessBare σ a b = some (bI (decide (uI a < uI b))) := by
  unfold m_X4_isLessBare
  have e : (!decide (b + ((-9223372036854775808) : Int64) ≤ a + ((-9223372036854775808) : Int64))) = decide (uI a < uI b) := by
    rw [Bool.eq_iff_iff, Bool.not_eq_true', decide_eq_false_iff_not, decide_eq_true_eq, fa_le64, uI_N, uI_N]
    omega
  rw [s01, Option.bind_some, nz_bI, e]
/-- the nearest of some numbers -/
def nrB (l : List Int64) (V : Int) (b : Int64) : Prop := b ∈ l ∧ ∀ y, y ∈ l → dI b.toInt V < dI y.toInt V ∨ (dI b.toInt V = dI y.toInt V ∧ b.toInt ≤ y.toInt)
section NEA
variable {σ v : St} {L : List (Nat × Int64)} {l : List Int64}
theorem cnear_wp (hP : Pk σ L) (A : Int64) (hA : -4611686018427387904 ≤ A.toInt ∧ A.toInt ≤ 4611686018427387903) (hF : ∀ x, x ∈ L.map Prod.snd → -4611686018427387904 ≤ x.toInt ∧ x.toInt ≤ 4611686018427387903) : wp (lp 5000 (fun (s15 : Int64 × Int64 × Int32) => (if σ.1 19 0 ≤ s15.2.2 then some (.inr s15.1) else ((ix s15.2.2 192).bind fun j23 => ((c_J9_abs_067f4 σ (σ.2 21 j23 - A)).bind fun v25 => ((if s15.1 = ((-9223372036854775808) : Int64) then some (σ.2 21 j23, v25) else (if v25 < s15.2.1 then some (σ.2 21 j23, v25) else (if v25 = s15.2.1 then (if s15.1 ≤ σ.2 21 j23 then some (s15.1, s15.2.1) else some (σ.2 21 j23, v25)) else some (s15.1, s15.2.1)))).bind fun (t27 : Int64 × Int64) => some (.inl (t27.1, t27.2, (s15.2.2 + 1)))))))) (((-9223372036854775808) : Int64), (0 : Int64), (0 : Int32))) (fun b => (L = [] ∧ b = ((-9223372036854775808) : Int64)) ∨ nrB (L.map Prod.snd) A.toInt b) := by
  have h192 := hP.2.1
  have hll : (L.map Prod.snd).length = L.length := List.length_map ..
  refine wp_lp L.length (fun i (z : Int64 × Int64 × Int32) => z.2.2 = nI i ∧ ((i = 0 ∧ z.1 = ((-9223372036854775808) : Int64)) ∨ (0 < i ∧ nrB ((L.map Prod.snd).take i) A.toInt z.1 ∧ z.2.1.toInt = dI z.1.toInt A.toInt))) (by omega) ⟨rfl, Or.inl ⟨rfl, rfl⟩⟩ (fun i z hi hJ => ?_) (fun z hJ => ?_)
  · obtain ⟨b, d, z3⟩ := z
    obtain ⟨e1, hJ⟩ := hJ
    simp only at e1 hJ
    subst e1
    have ex := getD_some (l := L.map Prod.snd) (show i < (L.map Prod.snd).length by omega)
    have hx := hP.num (show i < (L.map Prod.snd).length by omega)
    have et : (L.map Prod.snd).take (i + 1) = (L.map Prod.snd).take i ++ [(L.map Prod.snd).getD i ((-9223372036854775808) : Int64)] := by
      rw [List.take_succ, ex]; rfl
    have hxF := hF _ (List.mem_iff_getElem?.mpr ⟨i, ex⟩)
    have hsub : ∀ y, y ∈ (L.map Prod.snd).take i → -4611686018427387904 ≤ y.toInt ∧ y.toInt ≤ 4611686018427387903 := fun y hy => hF y (List.mem_of_mem_take hy)
    generalize (L.map Prod.snd).take i = P at *
    generalize (L.map Prod.snd).getD i ((-9223372036854775808) : Int64) = x at *
    show wp (if σ.1 19 0 ≤ nI i then _ else (ix (nI i) 192).bind fun j23 => ((c_J9_abs_067f4 σ (σ.2 21 j23 - A)).bind fun v25 => ((if b = ((-9223372036854775808) : Int64) then some (σ.2 21 j23, v25) else (if v25 < d then some (σ.2 21 j23, v25) else (if v25 = d then (if b ≤ σ.2 21 j23 then some (b, d) else some (σ.2 21 j23, v25)) else some (b, d)))).bind fun (t27 : Int64 × Int64) => some (Sum.inl (t27.1, t27.2, (nI i + 1)))))) _
    rw [hP.1, if_neg (ltL _ (by omega) hi), ix192 (by omega), Option.bind_some, hx, abs_aB, Option.bind_some, nI_s]
    have hap : (aB (x - A)).toInt = dI x.toInt A.toInt := by
      have hs : (x - A).toInt = x.toInt - A.toInt := fb_subL (by omega) (by omega)
      unfold aB dI
      by_cases g : (0 : Int64) ≤ x - A
      · rw [if_pos g]
        rw [fa_le64, hs, L_0] at g
        rw [hs]
        split <;> omega
      · rw [if_neg g]
        rw [fa_le64, hs, L_0] at g
        rw [negT (by rw [hs]; omega), hs]
        split <;> omega
    have take : (∀ y, y ∈ P → dI x.toInt A.toInt < dI y.toInt A.toInt ∨ (dI x.toInt A.toInt = dI y.toInt A.toInt ∧ x.toInt ≤ y.toInt)) → wp ((some (x, aB (x - A))).bind fun (t27 : Int64 × Int64) => some (Sum.inl (β := Int64) (t27.1, t27.2, nI (i + 1)))) (lpP (fun z => z.2.2 = nI (i + 1) ∧ ((i + 1 = 0 ∧ z.1 = ((-9223372036854775808) : Int64)) ∨ (0 < i + 1 ∧ nrB ((L.map Prod.snd).take (i + 1)) A.toInt z.1 ∧ z.2.1.toInt = dI z.1.toInt A.toInt))) (fun b => (L = [] ∧ b = ((-9223372036854775808) : Int64)) ∨ nrB (L.map Prod.snd) A.toInt b)) := fun hy => by
      rw [Option.bind_some]
      refine wp_some ⟨rfl, Or.inr ⟨by omega, ?_, hap⟩⟩
      rw [et]
      refine ⟨List.mem_append_right _ (List.mem_singleton.mpr rfl), fun y hy2 => ?_⟩
      rcases List.mem_append.mp hy2 with hy2 | hy2
      · exact hy y hy2
      · rw [List.mem_singleton.mp hy2]
        exact Or.inr ⟨rfl, Int.le_refl _⟩
    rcases hJ with ⟨g1, g2⟩ | ⟨g1, ⟨g2, g3⟩, g4⟩
    · rw [if_pos g2]
      refine take (fun y hy => ?_)
      have hPl : P = [] := by
        subst g1
        have := et
        cases hm : L.map Prod.snd with
        | nil => rw [hm] at hll; rw [← hll] at hi; cases hi
        | cons a t =>
          rw [hm] at this
          have h2 := congrArg List.length this
          rw [List.length_append] at h2
          have h3 : (List.take (0 + 1) (a :: t)).length = 1 := rfl
          have h4 : [x].length = 1 := rfl
          exact List.length_eq_zero_iff.mp (by omega)
      rw [hPl] at hy; cases hy
    · have hb := hsub b g2
      have hbN : ¬ b = ((-9223372036854775808) : Int64) := fun q => by rw [q, L_N] at hb; omega
      have stay : (dI b.toInt A.toInt < dI x.toInt A.toInt ∨ (dI b.toInt A.toInt = dI x.toInt A.toInt ∧ b.toInt ≤ x.toInt)) → wp ((some (b, d)).bind fun (t27 : Int64 × Int64) => some (Sum.inl (β := Int64) (t27.1, t27.2, nI (i + 1)))) (lpP (fun z => z.2.2 = nI (i + 1) ∧ ((i + 1 = 0 ∧ z.1 = ((-9223372036854775808) : Int64)) ∨ (0 < i + 1 ∧ nrB ((L.map Prod.snd).take (i + 1)) A.toInt z.1 ∧ z.2.1.toInt = dI z.1.toInt A.toInt))) (fun b => (L = [] ∧ b = ((-9223372036854775808) : Int64)) ∨ nrB (L.map Prod.snd) A.toInt b)) := fun hy => by
        rw [Option.bind_some]
        refine wp_some ⟨rfl, Or.inr ⟨by omega, ?_, g4⟩⟩
        rw [et]
        refine ⟨List.mem_append_left _ g2, fun y hy2 => ?_⟩
        rcases List.mem_append.mp hy2 with hy2 | hy2
        · exact g3 y hy2
        · rw [List.mem_singleton.mp hy2]
          exact hy
      rw [if_neg hbN]
      by_cases c1 : aB (x - A) < d
      · rw [if_pos c1]
        rw [fa_lt64, hap, g4] at c1
        exact take (fun y hy => by rcases g3 y hy with g | g <;> exact Or.inl (by omega))
      · rw [if_neg c1]
        rw [fa_lt64, hap, g4] at c1
        by_cases c2 : aB (x - A) = d
        · rw [if_pos c2]
          have c3 : dI x.toInt A.toInt = dI b.toInt A.toInt := by rw [← hap, c2, g4]
          by_cases c4 : b ≤ x
          · rw [if_pos c4]
            rw [fa_le64] at c4
            exact stay (Or.inr ⟨c3.symm, c4⟩)
          · rw [if_neg c4]
            rw [fa_le64] at c4
            exact take (fun y hy => by
              rcases g3 y hy with g | g
              · exact Or.inl (by omega)
              · exact Or.inr ⟨by omega, by omega⟩)
        · rw [if_neg c2]
          have c3 : ¬ dI x.toInt A.toInt = dI b.toInt A.toInt := fun q => c2 (Int64.toInt.inj (by rw [hap, g4, q]))
          exact stay (Or.inl (by omega))
  · obtain ⟨b, d, z3⟩ := z
    obtain ⟨e1, hJ⟩ := hJ
    simp only at e1 hJ
    subst e1
    show wp (if σ.1 19 0 ≤ nI L.length then _ else _) _
    rw [hP.1, if_pos (geL _ (by omega))]
    refine wp_some ?_
    rcases hJ with ⟨g1, g2⟩ | ⟨g1, g2, g3⟩
    · exact Or.inl ⟨List.length_eq_zero_iff.mp g1, g2⟩
    · rw [List.take_of_length_le (by omega)] at g2
      exact Or.inr g2
theorem mnear_wp (hl : Ls v l) (hs : l.Pairwise leL) (V : Int64) : wp (lp 5000 (fun (s6 : Int64 × Int64 × Int32) => (if v.1 0 10 ≤ s6.2.2 then some (.inr s6.1) else ((ix s6.2.2 192).bind fun j14 => ((if V ≤ v.2 6 j14 then ((ix s6.2.2 192).bind fun j20 => some (v.2 6 j20 - V)) else ((ix s6.2.2 192).bind fun j22 => some (V - v.2 6 j22))).bind fun (t16 : Int64) => ((if s6.2.2 ≤ 0 then ((ix s6.2.2 192).bind fun j28 => some (v.2 6 j28, t16)) else ((m_X4_isLessBare v t16 s6.2.1).bind fun v30 => (if v30 = 0 then some (s6.1, s6.2.1) else ((ix s6.2.2 192).bind fun j33 => some (v.2 6 j33, t16))))).bind fun (t24 : Int64 × Int64) => some (.inl (t24.1, t24.2, (s6.2.2 + 1)))))))) (((-9223372036854775808) : Int64), (0 : Int64), (0 : Int32))) (fun b => (l = [] ∧ b = ((-9223372036854775808) : Int64)) ∨ nrB l V.toInt b) := by
  have h192 := hl.2.1
  refine wp_lp l.length (fun i (z : Int64 × Int64 × Int32) => z.2.2 = nI i ∧ ((i = 0 ∧ z.1 = ((-9223372036854775808) : Int64)) ∨ (0 < i ∧ nrB (l.take i) V.toInt z.1 ∧ uI z.2.1 = dI z.1.toInt V.toInt))) (by omega) ⟨rfl, Or.inl ⟨rfl, rfl⟩⟩ (fun i z hi hJ => ?_) (fun z hJ => ?_)
  · obtain ⟨b, d, z3⟩ := z
    obtain ⟨e1, hJ⟩ := hJ
    simp only at e1 hJ
    subst e1
    have ex := getD_some hi
    have hx := hl.num hi
    have et : l.take (i + 1) = l.take i ++ [l.getD i ((-9223372036854775808) : Int64)] := by
      rw [List.take_succ, ex]; rfl
    have hle : ∀ y, y ∈ l.take i → y.toInt ≤ (l.getD i ((-9223372036854775808) : Int64)).toInt := fun y hy => by
      have h1 : (l.take i ++ l.drop i).Pairwise leL := by rw [List.take_append_drop]; exact hs
      have h2 := (List.pairwise_append.mp h1).2.2 y hy (l.getD i ((-9223372036854775808) : Int64)) (by
        refine List.mem_iff_getElem?.mpr ⟨0, ?_⟩
        rw [List.getElem?_drop]; exact ex)
      rw [leL, fa_le64] at h2
      exact h2
    have hPl : i = 0 → l.take i = [] := fun g => by rw [g]; rfl
    generalize l.take i = P at *
    generalize l.getD i ((-9223372036854775808) : Int64) = x at *
    show wp (if v.1 0 10 ≤ nI i then _ else (ix (nI i) 192).bind fun j14 => ((if V ≤ v.2 6 j14 then ((ix (nI i) 192).bind fun j20 => some (v.2 6 j20 - V)) else ((ix (nI i) 192).bind fun j22 => some (V - v.2 6 j22))).bind fun (t16 : Int64) => ((if nI i ≤ 0 then ((ix (nI i) 192).bind fun j28 => some (v.2 6 j28, t16)) else ((m_X4_isLessBare v t16 d).bind fun v30 => (if v30 = 0 then some (b, d) else ((ix (nI i) 192).bind fun j33 => some (v.2 6 j33, t16))))).bind fun (t24 : Int64 × Int64) => some (Sum.inl (t24.1, t24.2, (nI i + 1)))))) _
    rw [hl.1, if_neg (ltL _ (by omega) hi), ix192 (by omega), Option.bind_some, Option.bind_some, Option.bind_some, hx, nI_s]
    have hoff : ∃ o, (if V ≤ x then some (x - V) else some (V - x)) = some o ∧ uI o = dI x.toInt V.toInt := by
      unfold dI
      by_cases g : V ≤ x
      · rw [if_pos g]
        rw [fa_le64] at g
        refine ⟨_, rfl, ?_⟩
        rw [uI_sub g]
        split <;> omega
      · rw [if_neg g]
        rw [fa_le64] at g
        refine ⟨_, rfl, ?_⟩
        rw [uI_sub (by omega), if_pos (by omega)]
    obtain ⟨o, eo, ho⟩ := hoff
    rw [eo, Option.bind_some, Option.bind_some]
    rcases hJ with ⟨g1, g2⟩ | ⟨g1, ⟨g2, g3⟩, g4⟩
    · subst g1
      rw [if_pos (show nI 0 ≤ 0 by decide), Option.bind_some, hx]
      refine wp_some ⟨rfl, Or.inr ⟨by omega, ?_, ho⟩⟩
      rw [et, hPl rfl]
      refine ⟨List.mem_singleton.mpr rfl, fun y hy => ?_⟩
      rw [List.nil_append] at hy
      rw [List.mem_singleton.mp hy]
      exact Or.inr ⟨rfl, Int.le_refl _⟩
    · rw [if_neg (nI_nle g1 (by omega)), lessBare_eq, Option.bind_some, if_bI, hx, ho, g4]
      by_cases c1 : dI x.toInt V.toInt < dI b.toInt V.toInt
      · rw [if_pos (decide_eq_true c1), Option.bind_some]
        refine wp_some ⟨rfl, Or.inr ⟨by omega, ?_, ho⟩⟩
        rw [et]
        refine ⟨List.mem_append_right _ (List.mem_singleton.mpr rfl), fun y hy2 => ?_⟩
        rcases List.mem_append.mp hy2 with hy2 | hy2
        · rcases g3 y hy2 with g | g <;> exact Or.inl (show dI x.toInt V.toInt < dI y.toInt V.toInt by omega)
        · rw [List.mem_singleton.mp hy2]
          exact Or.inr ⟨rfl, Int.le_refl _⟩
      · rw [if_neg (by simpa using c1), Option.bind_some]
        refine wp_some ⟨rfl, Or.inr ⟨by omega, ?_, g4⟩⟩
        rw [et]
        refine ⟨List.mem_append_left _ g2, fun y hy2 => ?_⟩
        rcases List.mem_append.mp hy2 with hy2 | hy2
        · exact g3 y hy2
        · rw [List.mem_singleton.mp hy2]
          have := hle b g2
          by_cases c2 : dI b.toInt V.toInt = dI x.toInt V.toInt
          · exact Or.inr ⟨c2, this⟩
          · exact Or.inl (show dI b.toInt V.toInt < dI x.toInt V.toInt by omega)
  · obtain ⟨b, d, z3⟩ := z
    obtain ⟨e1, hJ⟩ := hJ
    simp only at e1 hJ
    subst e1
    show wp (if v.1 0 10 ≤ nI l.length then _ else _) _
    rw [hl.1, if_pos (geL _ (by omega))]
    refine wp_some ?_
    rcases hJ with ⟨g1, g2⟩ | ⟨g1, g2, g3⟩
    · exact Or.inl ⟨List.length_eq_zero_iff.mp g1, g2⟩
    · rw [List.take_of_length_le (Nat.le_refl _)] at g2
      exact Or.inr g2
/-- one is the nearest -/
theorem nrB_one {l2 : List Int64} (hp : l2.Perm l) {A V : Int} {a b : Int64} (hA : A = max (-4611686018427387904) (min 4611686018427387903 V)) (hF : ∀ x, x ∈ l → -4611686018427387904 ≤ x.toInt ∧ x.toInt ≤ 4611686018427387903) (h1 : nrB l A a) (h2 : nrB l2 V b) : a = b := by
  have m1 := hp.mem_iff.mp h2.1
  have m2 := hp.mem_iff.mpr h1.1
  have g1 := h1.2 b m1
  have g2 := h2.2 a m2
  have f1 := hF a h1.1
  have f2 := hF b m1
  refine Int64.toInt.inj ?_
  unfold dI at g1 g2
  by_cases c1 : V < -4611686018427387904
  · have : A = -4611686018427387904 := by omega
    rw [if_neg (by omega), if_neg (by omega)] at g2
    subst this
    by_cases x1 : a.toInt ≤ -4611686018427387904 <;> by_cases x2 : b.toInt ≤ -4611686018427387904 <;> simp only [x1, x2, if_true, if_false] at g1 <;> omega
  · by_cases c2 : 4611686018427387903 < V
    · have : A = 4611686018427387903 := by omega
      rw [if_pos (by omega), if_pos (by omega)] at g2
      rw [if_pos (by omega), if_pos (by omega)] at g1
      omega
    · have : A = V := by omega
      subst this
      by_cases x1 : a.toInt ≤ A <;> by_cases x2 : b.toInt ≤ A <;> simp only [x1, x2, if_true, if_false] at g1 g2 <;> omega
end NEA
theorem fit_rg {w : Nat} {x : Int64} (hw : 2 ≤ w ∧ w ≤ 63) (h : Fit w x) : -4611686018427387904 ≤ x.toInt ∧ x.toInt ≤ 4611686018427387903 := by
  have h2 : 2 ^ (w - 1) ≤ 2 ^ 62 := Nat.pow_le_pow_right (by decide) (by omega)
  unfold Fit at h
  omega
theorem op_nearest (I : Ims) (s u : St) (a0 a1 : Int32) (a2 : Int64) (h : Rl I s u) : Agr ["java/lang/IndexOutOfBoundsException"] (Rl I) (c_X3_nearest s a0 a1 a2) (m_X4_nearest u a0 a1 a2) := by
  obtain ⟨n, k, w, C, M, q, J, hW, hC, hM0, hI⟩ := h
  unfold c_X3_nearest m_X4_nearest
  have hM : RM n k w C M q J (sI u 0 0 0) := hM0.sI0 (Or.inl rfl)
  have ht : (sI u 0 0 0).1 0 0 = 0 := sIs
  generalize sI u 0 0 0 = u0 at hM ht ⊢
  simp only [needMask_eq, needWord_eq, needImage_eq, needColumn_eq hC hW, needRow_eq hC hW, needWidth_eq, xB_gX, isMask_eq, isWord_eq, isColumn_eq hM hW, isRow_eq hM hW, areIn_eq hM hW, isIn_eq, rg_if, needArgument_eq, needState_eq, Option.bind_some, if_bI, fails_eq, t64, I_m192, I_m62, I_m9, I_0, I_1, I_2, I_3, I_5, I_9, I_16, I_62, I_63, I_64, I_192, I_1000, L_m192, L_m62, L_m9, L_0, L_1, L_2, L_3, L_5, L_9, L_16, L_62, L_63, L_64, L_192, L_1000]
  by_cases h1 : inB a0 k = true
  case neg =>
    rw [Bool.not_eq_true] at h1
    simp only [h1, Bool.false_and, Bool.and_false, Bool.and_self, Bool.true_and, Bool.and_true, Bool.false_eq_true, eq_self, if_true, if_false, reduceIte, ite_self]
    exact Agr.err hW hI 0 rfl rfl rfl sIs hC (hM.sI0 (Or.inl rfl))
  by_cases h2 : inB a1 8 = true
  case neg =>
    rw [Bool.not_eq_true] at h2
    simp only [h1, h2, Bool.false_and, Bool.and_false, Bool.and_self, Bool.true_and, Bool.and_true, Bool.false_eq_true, eq_self, if_true, if_false, reduceIte, ite_self]
    exact Agr.err hW hI 0 rfl rfl rfl sIs hC (hM.sI0 (Or.inl rfl))
  simp only [h1, h2, Bool.false_and, Bool.and_false, Bool.and_self, Bool.true_and, Bool.and_true, Bool.false_eq_true, eq_self, if_true, if_false, reduceIte, ite_self]
  obtain ⟨c, hc, rfl⟩ := inB_ex hW.k31 h1
  obtain ⟨m, hm, rfl⟩ := inB_ex (by decide) h2
  refine Agr.bindC (gather_wp hC hW hc hm) (fun τ hτ => ?_)
  refine Agr.bindM (lists_wp hM hW hc hm ht) (fun v hv => ?_)
  obtain ⟨hMv, htv, l, hl, hs, hp⟩ := hv
  have hF : ∀ x, x ∈ (gl (fun r => C c r != ((-9223372036854775808) : Int64) && M m r) (C c) n).map Prod.snd → -4611686018427387904 ≤ x.toInt ∧ x.toInt ≤ 4611686018427387903 := fun x hx => by
    obtain ⟨y, hy, rfl⟩ := List.mem_map.mp hx
    obtain ⟨f1, f2, f3⟩ := gl_mem.mp hy
    rw [f3]
    have hN := nbN (Bool.and_eq_true_iff.mp f2).1
    rcases hW.hf hc f1 with g | g
    · exact absurd g hN
    · exact fit_rg (hW.hw hc) g
  rw [minL_eq, Option.bind_some, maxL_eq, Option.bind_some]
  have hA : ∀ (x y : Int64), x = (if a2 < 4611686018427387903 then a2 else 4611686018427387903) → y = (if (-4611686018427387904 : Int64) < x then x else -4611686018427387904) → y.toInt = max (-4611686018427387904) (min 4611686018427387903 a2.toInt) := fun x y ex ey => by
    have l1 : (4611686018427387903 : Int64).toInt = 4611686018427387903 := by decide
    have l2 : (-4611686018427387904 : Int64).toInt = -4611686018427387904 := by decide
    have hx : x.toInt = min 4611686018427387903 a2.toInt := by
      rw [ex]
      by_cases g : a2 < 4611686018427387903
      · rw [if_pos g]
        rw [fa_lt64, l1] at g
        omega
      · rw [if_neg g]
        rw [fa_lt64, l1] at g
        rw [l1]; omega
    rw [ey]
    by_cases g : (-4611686018427387904 : Int64) < x
    · rw [if_pos g]
      rw [fa_lt64, l2] at g
      omega
    · rw [if_neg g]
      rw [fa_lt64, l2] at g
      rw [l2]; omega
  have hA := hA _ _ rfl rfl
  generalize (if (-4611686018427387904 : Int64) < (if a2 < 4611686018427387903 then a2 else 4611686018427387903) then (if a2 < 4611686018427387903 then a2 else 4611686018427387903) else -4611686018427387904) = A at *
  refine Agr.bindC (cnear_wp hτ.2 A (by omega) hF) (fun b hb => ?_)
  refine Agr.bindM (mnear_wp hl hs a2) (fun b2 hb2 => ?_)
  have e : b = b2 := by
    rcases hb with ⟨g1, g2⟩ | g1
    · rcases hb2 with ⟨f1, f2⟩ | f1
      · rw [g2, f2]
      · have := hp.mem_iff.mp f1.1
        rw [g1] at this; cases this
    · rcases hb2 with ⟨f1, f2⟩ | f1
      · have := hp.mem_iff.mpr g1.1
        rw [f1] at this; cases this
      · exact nrB_one hp hA hF g1 f1
  subst e
  exact Agr.ok hW hI rfl rfl htv hτ.1 hMv
