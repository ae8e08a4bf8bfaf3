/-! ===== box ===== -/
theorem uI_lN {m : Nat} (h : m < 2 ^ 64) : uI (lN m) = m := by
  unfold uI
  rw [lN_ti31 h]
  split <;> split <;> omega
theorem goesInto_eq (σ : St) {u s : Nat} (hu : u < 2 ^ 64) (h0 : 0 < s) (hs : s < 2 ^ 63) : m_X4_goesInto σ (lN s) (lN u) = some (lN (u / s)) := by
  unfold m_X4_goesInto
  have hs0 : ¬ lN s = 0 := fun q => by
    have := congrArg uI q
    rw [uI_lN (by omega)] at this
    have h1 : uI 0 = 0 := by decide
    omega
  rw [if_neg hs0]
  by_cases c : u < 2 ^ 63
  · rw [if_neg (by rw [fa_lt64, lN_ti31 hu, if_pos (by omega), L_0]; omega), if_neg hs0, pk_lDiv c h0 hs]
  · rw [if_pos (by rw [fa_lt64, lN_ti31 hu, if_neg (by omega), L_0]; omega)]
    have e1 := wb_shr (n := u) (k := 1) hu (by decide)
    rw [show nI 1 = (1 : Int32) from rfl] at e1
    rw [e1, pk_lDiv (by omega) h0 hs]
    have e2 := wb_shl (u / 2 ^ 1 / s) (k := 1) (by decide)
    rw [show nI 1 = (1 : Int32) from rfl] at e2
    rw [e2, lN_mul]
    have hd := Nat.div_add_mod (u / 2 ^ 1) s
    have hm := Nat.mod_lt (u / 2 ^ 1) h0
    have hle : u / 2 ^ 1 / s * 2 ^ 1 * s = 2 * (s * (u / 2 ^ 1 / s)) := by
      rw [Nat.mul_comm (u / 2 ^ 1 / s) (2 ^ 1), Nat.mul_assoc, Nat.mul_comm (u / 2 ^ 1 / s) s]
    rw [hle, lN_sub (by omega), lessBare_eq, Option.bind_some, uI_lN (by omega), uI_lN (by omega), if_bI]
    generalize ha : u / 2 ^ 1 / s = a at *
    have f1 : 2 * a * s = 2 * (s * a) := by rw [Nat.mul_assoc, Nat.mul_comm a s]
    by_cases g : u - 2 * (s * a) < s
    · rw [if_pos (decide_eq_true (by omega)), Option.bind_some]
      have : u / s = a * 2 ^ 1 := by
        refine Nat.div_eq_of_lt_le ?_ ?_
        · rw [Nat.mul_comm a, show 2 ^ 1 = 2 from rfl, f1]; omega
        · rw [Nat.mul_comm a, show 2 ^ 1 = 2 from rfl, Nat.succ_mul, f1]; omega
      rw [this]
    · rw [if_neg (by simp only [decide_eq_true_eq]; omega), Option.bind_some, lN_1]
      have : u / s = a * 2 ^ 1 + 1 := by
        refine Nat.div_eq_of_lt_le ?_ ?_
        · rw [Nat.mul_comm a, show 2 ^ 1 = 2 from rfl, Nat.succ_mul, f1]; omega
        · rw [Nat.mul_comm a, show 2 ^ 1 = 2 from rfl, Nat.succ_mul, Nat.succ_mul, f1]; omega
      rw [this]
theorem fold_cnt (p : Int64 → Bool) (l : List Int64) : ∀ a : Nat, l.foldl (fun b x => b + bI (p x)) (nI a) = nI (a + l.countP p) := by
  induction l with
  | nil => intro a; rfl
  | cons x l ih =>
    intro a
    rw [List.foldl_cons, bI_nI, nI_add, ih, List.countP_cons, Nat.add_comm (l.countP p), ← Nat.add_assoc]
theorem cnt_two (p q : Int64 → Bool) (l : List Int64) (h : ∀ x, q x = true → p x = true) : l.countP p = l.countP q + l.countP (fun x => p x && !q x) := by
  induction l with
  | nil => rfl
  | cons x l ih =>
    rw [List.countP_cons, List.countP_cons, List.countP_cons, ih]
    have := h x
    cases hq : q x
    · cases hp : p x <;> simp <;> omega
    · rw [this hq]; simp; omega
def bxB (Z1 Z2 : Int) (x : Int64) : Bool := decide (Z1 ≤ x.toInt) && decide (x.toInt < Z2)
theorem st4 (x V : Int64) : stB x 4 V = decide (V.toInt ≤ x.toInt) := by
  show (!decide (x < V)) = _
  rw [Bool.eq_iff_iff, Bool.not_eq_true', decide_eq_false_iff_not, decide_eq_true_eq, fa_lt64]
  omega
/-- one number asked by the reference -/
theorem box_one (σ : St) (x low : Int64) {s K : Nat} (h0 : 0 < s) (hs : s < 2 ^ 63) (hK : K < 2 ^ 31) : (if x < low then some (0 : Int32) else ((m_X4_goesInto σ (lN s) (x - low)).bind fun v26 => (if v26 = (nI K).toInt64 then some (1 : Int32) else some (0 : Int32)))) = some (bI (bxB (low.toInt + (s : Int) * K) (low.toInt + (s : Int) * K + s) x)) := by
  have hsk : (0 : Int) ≤ (s : Int) * K := Int.mul_nonneg (by omega) (by omega)
  unfold bxB
  by_cases c : x < low
  · rw [if_pos c]
    rw [fa_lt64] at c
    rw [decide_eq_false (show ¬ low.toInt + (s : Int) * K ≤ x.toInt by omega)]
    rfl
  · rw [if_neg c]
    rw [fa_lt64] at c
    obtain ⟨u, hu, eu⟩ := wb_of (x - low)
    have hd := uI_sub (x := x) (y := low) (by omega)
    rw [eu, uI_lN hu] at hd
    rw [eu, goesInto_eq σ hu h0 hs, Option.bind_some, nI_l hK, s10]
    have hdu : u / s ≤ u := Nat.div_le_self _ _
    have e : (lN (u / s) = lN K) ↔ u / s = K := by
      constructor
      · intro q
        have := congrArg uI q
        rw [uI_lN (by omega), uI_lN (by omega)] at this
        omega
      · intro q; rw [q]
    have e2 : u / s = K ↔ (K * s ≤ u ∧ u < (K + 1) * s) := by
      rw [← Nat.le_div_iff_mul_le h0, ← Nat.div_lt_iff_lt_mul h0]
      omega
    have e3 : ((K * s : Nat) : Int) = (s : Int) * K := by rw [Int.natCast_mul, Int.mul_comm]
    have e4 : (((K + 1) * s : Nat) : Int) = (s : Int) * K + s := by rw [Nat.succ_mul, Int.natCast_add, e3]
    have : decide (lN (u / s) = lN K) = (decide (low.toInt + (s : Int) * K ≤ x.toInt) && decide (x.toInt < low.toInt + (s : Int) * K + s)) := by
      rw [Bool.eq_iff_iff, decide_eq_true_eq, Bool.and_eq_true, decide_eq_true_eq, decide_eq_true_eq, e, e2]
      omega
    rw [this]
theorem op_box (I : Ims) (s u : St) (a0 a1 : Int32) (a2 a3 : Int64) (a4 : Int32) (h : Rl I s u) : Agr ["java/lang/IndexOutOfBoundsException", "java/lang/IllegalArgumentException"] (Rl I) (c_X3_box s a0 a1 a2 a3 a4) (m_X4_box u a0 a1 a2 a3 a4) := by
  obtain ⟨n, k, w, C, M, q, J, hW, hC, hM0, hI⟩ := h
  unfold c_X3_box m_X4_box
  have hM : RM n k w C M q J (sI u 0 0 0) := hM0.sI0 (Or.inl rfl)
  have ht : (sI u 0 0 0).1 0 0 = 0 := sIs
  generalize sI u 0 0 0 = u0 at hM ht ⊢
  have hst : (a3 < (1 : Int64)) = ((!decide (a3 < (1 : Int64))) = false) := by
    apply propext
    rw [Bool.not_eq_false', decide_eq_true_eq]
  simp only [s01, ge0]
  simp only [needMask_eq, needWord_eq, needImage_eq, needColumn_eq hC hW, needRow_eq hC hW, needWidth_eq, xB_gX, isMask_eq, isWord_eq, isColumn_eq hM hW, isRow_eq hM hW, areIn_eq hM hW, isIn_eq, rg_if, needArgument_eq, needState_eq, Option.bind_some, if_bI, fails_eq, t64, I_m192, I_m62, I_m9, I_0, I_1, I_2, I_3, I_5, I_9, I_16, I_62, I_63, I_64, I_192, I_1000, L_m192, L_m62, L_m9, L_0, L_1, L_2, L_3, L_5, L_9, L_16, L_62, L_63, L_64, L_192, L_1000]
  by_cases h1 : inB a0 k = true
  case neg =>
    rw [Bool.not_eq_true] at h1
    simp only [h1, Bool.false_and, Bool.and_false, Bool.and_self, Bool.true_and, Bool.and_true, Bool.false_eq_true, eq_self, if_true, if_false, reduceIte, ite_self]
    exact Agr.err hW hI 0 rfl rfl rfl sIs hC (hM.sI0 (Or.inl rfl))
  by_cases h2 : inB a1 8 = true
  case neg =>
    rw [Bool.not_eq_true] at h2
    simp only [h1, h2, Bool.false_and, Bool.and_false, Bool.and_self, Bool.true_and, Bool.and_true, Bool.false_eq_true, eq_self, if_true, if_false, reduceIte, ite_self]
    exact Agr.err hW hI 0 rfl rfl rfl sIs hC (hM.sI0 (Or.inl rfl))
  by_cases h3 : a3 < 1
  case pos =>
    simp only [h1, h2, h3, decide_true, Bool.not_true, Bool.false_and, Bool.and_false, Bool.and_self, Bool.true_and, Bool.and_true, Bool.false_eq_true, eq_self, if_true, if_false, reduceIte, ite_self]
    exact Agr.err hW hI 1 rfl rfl rfl sIs hC (hM.sI0 (Or.inl rfl))
  by_cases h4 : (!decide (a4 < 0)) = true
  case neg =>
    rw [Bool.not_eq_true] at h4
    simp only [h1, h2, h3, h4, decide_false, Bool.not_false, Bool.false_and, Bool.and_false, Bool.and_self, Bool.true_and, Bool.and_true, Bool.false_eq_true, eq_self, if_true, if_false, reduceIte, ite_self]
    exact Agr.err hW hI 1 rfl rfl rfl sIs hC (hM.sI0 (Or.inl rfl))
  simp only [h1, h2, h3, h4, decide_false, Bool.not_false, Bool.false_and, Bool.and_false, Bool.and_self, Bool.true_and, Bool.and_true, Bool.false_eq_true, eq_self, if_true, if_false, reduceIte, ite_self]
  obtain ⟨c, hc, rfl⟩ := inB_ex hW.k31 h1
  obtain ⟨m, hm, rfl⟩ := inB_ex (by decide) h2
  obtain ⟨K, hK, rfl⟩ := nI_of (x := a4) (by rw [Bool.not_eq_true', decide_eq_false_iff_not] at h4; exact h4)
  obtain ⟨S, hS, rfl⟩ : ∃ S : Nat, (0 < S ∧ S < 2 ^ 63) ∧ a3 = lN S := by
    obtain ⟨S, hS, rfl⟩ := pk_lOf (x := a3) (by
      rw [fa_lt64] at h3 ⊢
      rw [L_1] at h3
      rw [L_0]; omega)
    rw [fa_lt64, L_1, pk_lT hS] at h3
    exact ⟨S, ⟨by omega, hS⟩, rfl⟩
  refine Agr.bindC (gather_wp hC hW hc hm) (fun τ hτ => ?_)
  refine Agr.bindM (lists_wp hM hW hc hm ht) (fun v hv => ?_)
  obtain ⟨hMv, htv, l, hl, hs, hp⟩ := hv
  have hl5 : l.length < 2 ^ 31 := by have := hl.2.1; omega
  have hZ : (0 : Int) ≤ (S : Int) * K := Int.mul_nonneg (by omega) (by omega)
  have hlow := rgL a2
  -- the reference
  rw [lp_listE (fun a i => (a, i)) (fun a => a) l (fun a x => a + bI (bxB (a2.toInt + (S : Int) * K) (a2.toInt + (S : Int) * K + S) x)) 0 rfl hl.2.1 (fun i x a e => ?_) (fun a => ?_)]
  · have hcnt := fold_cnt (bxB (a2.toInt + (S : Int) * K) (a2.toInt + (S : Int) * K + S)) l 0
    rw [show nI 0 = (0 : Int32) from rfl, Nat.zero_add, hp.countP_eq] at hcnt
    rw [hcnt, Option.bind_some]
    generalize hG : (gl (fun r => C c r != ((-9223372036854775808) : Int64) && M m r) (C c) n) = G at *
    -- the class
    rw [wRestart_eq, Option.bind_some]
    have w0 := Wd_0 τ
    have o0 : Oc 25 τ (fL τ 25 0 (fun _ => 0) 4) := fL_oc
    generalize fL τ 25 0 (fun _ => 0) 4 = t0 at w0 o0 ⊢
    refine Agr.bindC (wInc_wp (v := a2) w0 (by omega)) (fun t1 g1 => ?_)
    have hKl : ((nI K).toInt64).toInt = K := by rw [t64, nI_toInt hK]
    have hSl : (lN S).toInt = S := pk_lT hS.2
    have b1 : (0 : Int) ≤ (S : Int) % 2147483648 ∧ (S : Int) % 2147483648 ≤ 2147483647 := by omega
    have b2 : (0 : Int) ≤ (S : Int) / 2147483648 ∧ (S : Int) / 2147483648 ≤ 4294967295 := by omega
    have b3 : (K : Int) % 2147483648 = K := by omega
    have b4 : (K : Int) / 2147483648 = 0 := by omega
    have b5 : (0 : Int) ≤ (K : Int) ∧ (K : Int) ≤ 2147483647 := by omega
    have m1 : (S : Int) % 2147483648 * K ≤ 2147483647 * 2147483647 := Int.mul_le_mul b1.2 b5.2 b5.1 (by decide)
    have m2 : (S : Int) / 2147483648 * K ≤ 4294967295 * 2147483647 := Int.mul_le_mul b2.2 b5.2 b5.1 (by decide)
    have m3 : 0 ≤ (S : Int) % 2147483648 * K := Int.mul_nonneg b1.1 b5.1
    have m4 : 0 ≤ (S : Int) / 2147483648 * K := Int.mul_nonneg b2.1 b5.1
    refine Agr.bindC (wPrd_wp (x := lN S) (y := (nI K).toInt64) g1.2 (by omega) (by rw [hSl, hKl, b3]; omega) (by rw [hSl, hKl, b3]; omega) (by rw [hSl, hKl, b4, Int.mul_zero]; omega) (by rw [hSl, hKl, b4, Int.mul_zero]; omega)) (fun t2 g2 => ?_)
    have w2 := g2.2
    rw [hSl, hKl, Int.zero_add] at w2
    have o2 : Oc 25 τ t2 := (o0.tr g1.1).tr g2.1
    have hC2 := hτ.1.oc (i := 25) (by decide) o2
    have hP2 : Pk t2 G := hτ.2.oc (by decide) o2
    rw [isLong_eq w2, Option.bind_some, if_bI]
    by_cases c1 : lgB (a2.toInt + (S : Int) * K) = true
    · rw [if_pos c1]
      refine Agr.bindC (asLong_wp w2 c1) (fun V hV => ?_)
      have hh1 : c_X0_howMany t2 4 V = some (nI ((G.map Prod.snd).countP (fun x => decide (a2.toInt + (S : Int) * K ≤ x.toInt)))) := by
        rw [howMany_eq hP2]
        have := fold_cnt (fun x => stB x 4 V) (G.map Prod.snd) 0
        rw [show nI 0 = (0 : Int32) from rfl, Nat.zero_add] at this
        rw [this]
        simp only [st4, hV]
      rw [hh1, Option.bind_some]
      refine Agr.bindC (wInc_wp (v := lN S) w2 (by omega)) (fun t3 g3 => ?_)
      have w3 := g3.2
      rw [hSl] at w3
      have o3 : Oc 25 τ t3 := o2.tr g3.1
      have hC3 := hτ.1.oc (i := 25) (by decide) o3
      have hP3 : Pk t3 G := hτ.2.oc (by decide) o3
      rw [isLong_eq w3, Option.bind_some, if_bI]
      by_cases c2 : lgB (a2.toInt + (S : Int) * K + S) = true
      · rw [if_pos c2]
        obtain ⟨V2, eV2, hV2⟩ := asLong_wp w3 c2
        have hh2 : c_X0_howMany t3 4 V2 = some (nI ((G.map Prod.snd).countP (fun x => decide (a2.toInt + (S : Int) * K + S ≤ x.toInt)))) := by
          rw [howMany_eq hP3]
          have := fold_cnt (fun x => stB x 4 V2) (G.map Prod.snd) 0
          rw [show nI 0 = (0 : Int32) from rfl, Nat.zero_add] at this
          rw [this]
          simp only [st4, hV2]
        rw [eV2, Option.bind_some, hh2, Option.bind_some, Option.bind_some]
        have h2c := cnt_two (fun x => decide (a2.toInt + (S : Int) * K ≤ x.toInt)) (fun x => decide (a2.toInt + (S : Int) * K + S ≤ x.toInt)) (G.map Prod.snd) (fun x hx => by
          rw [decide_eq_true_eq] at hx ⊢
          omega)
        have h3c : (G.map Prod.snd).countP (fun x => decide (a2.toInt + (S : Int) * K ≤ x.toInt) && !decide (a2.toInt + (S : Int) * K + S ≤ x.toInt)) = (G.map Prod.snd).countP (bxB (a2.toInt + (S : Int) * K) (a2.toInt + (S : Int) * K + S)) := by
          congr 1
          funext x
          unfold bxB
          rw [show decide (x.toInt < a2.toInt + (S : Int) * K + S) = !decide (a2.toInt + (S : Int) * K + S ≤ x.toInt) by
            rw [Bool.eq_iff_iff, Bool.not_eq_true', decide_eq_false_iff_not, decide_eq_true_eq]; omega]
        rw [pk_sub (by omega), show (G.map Prod.snd).countP (fun x => decide (a2.toInt + (S : Int) * K ≤ x.toInt)) - (G.map Prod.snd).countP (fun x => decide (a2.toInt + (S : Int) * K + S ≤ x.toInt)) = (G.map Prod.snd).countP (bxB (a2.toInt + (S : Int) * K) (a2.toInt + (S : Int) * K + S)) by omega]
        exact Agr.ok hW hI rfl rfl htv hC3 hMv
      · rw [if_neg c2, Option.bind_some]
        have h3c : (fun x : Int64 => decide (a2.toInt + (S : Int) * K ≤ x.toInt)) = bxB (a2.toInt + (S : Int) * K) (a2.toInt + (S : Int) * K + S) := by
          funext x
          unfold bxB
          unfold lgB at c1 c2
          rw [Bool.and_eq_true, decide_eq_true_eq, decide_eq_true_eq] at c1 c2
          have := rgL x
          rw [decide_eq_true (show x.toInt < a2.toInt + (S : Int) * K + S by omega), Bool.and_true]
        rw [h3c]
        exact Agr.ok hW hI rfl rfl htv hC3 hMv
    · rw [if_neg c1]
      have h3c : (G.map Prod.snd).countP (bxB (a2.toInt + (S : Int) * K) (a2.toInt + (S : Int) * K + S)) = 0 := by
        rw [List.countP_eq_zero]
        intro x _
        unfold bxB
        unfold lgB at c1
        rw [Bool.and_eq_true, decide_eq_true_eq, decide_eq_true_eq] at c1
        have := rgL x
        rw [decide_eq_false (show ¬ a2.toInt + (S : Int) * K ≤ x.toInt by omega), Bool.false_and]
        decide
      rw [h3c]
      exact Agr.ok hW hI rfl rfl htv hC2 hMv
  · obtain ⟨g1, g2, g3⟩ := hl.get e
    show (if v.1 0 10 ≤ nI i then _ else (ix (nI i) 192).bind fun j18 => ((if v.2 6 j18 < a2 then some (0 : Int32) else ((ix (nI i) 192).bind fun j24 => ((m_X4_goesInto v (lN S) (v.2 6 j24 - a2)).bind fun v26 => (if v26 = (nI K).toInt64 then some (1 : Int32) else some (0 : Int32))))).bind fun (t20 : Int32) => ((m_X4_flag v t20).bind fun v29 => some (Sum.inl ((a + v29), (nI i + 1)))))) = _
    rw [hl.1, if_neg (ltL l.length hl5 g2), ix192 g1, Option.bind_some, Option.bind_some, g3, box_one v x a2 hS.1 hS.2 hK, Option.bind_some, flag_eq, Option.bind_some, nI_s]
  · show (if v.1 0 10 ≤ nI l.length then _ else _) = _
    rw [hl.1, if_pos (geL l.length hl5)]
