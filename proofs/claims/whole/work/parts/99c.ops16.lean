/-! ===== remove, first, reverse ===== -/
theorem dn_m1 : nI 0 + (-1) < 0 := by decide
def dn (n : Nat) : Nat → List Nat
  | 0 => []
  | i + 1 => dn n i ++ [n - 1 - i]
theorem dn_len (n : Nat) : ∀ i, (dn n i).length = i
  | 0 => rfl
  | i + 1 => by rw [dn, List.length_append, dn_len n i]; rfl
theorem dn_lt {n r : Nat} : ∀ {i}, i ≤ n → r ∈ dn n i → r < n
  | 0, _, h => by cases h
  | i + 1, hi, h => by
    rw [dn, List.mem_append] at h
    rcases h with h | h
    · exact dn_lt (by omega) h
    · have := List.mem_singleton.mp h
      omega
theorem rs_two (f : Nat → Bool) (n : Nat) : fb_ct (fun r => f r == true) n + fb_ct (fun r => f r == false) n = n := by
  have h := fb_ct_not (fun r => f r == true) n
  rw [fb_ct_cong (p := fun r => f r == false) (q := fun r => !(f r == true)) (fun r _ => by cases f r <;> rfl)]
  exact h
section OP16
variable {n k : Nat} {w : Nat → Nat} {C : Nat → Nat → Int64} {M : Nat → Nat → Bool} {q : Int32} {σ u J : St} {l : List Nat} {I : Ims} {tbl : List String}
/-- both put their rows in the same order -/
theorem Agr.arr {α : Type} (hW : Wf n k w C M) (hI : ImR I J) (hC : RC n k w C M q σ) (hP : Pr σ l) (hM : RM n k w C M q J u) (ht : u.1 0 0 = 0) (hO : Od u l) (hl : ∀ x, x ∈ l → x < n) (hln : l.length ≤ n) (f : Int32 → Int32 → α) : Agr tbl (Rl I) ((c_X3_arrange σ).bind fun p => some (.ok (f p.1 (p.2.1 1 0)), p.2)) ((m_X4_puts u).bind fun p => some (f p.1 (p.2.1 0 5), p.2)) := by
  refine Agr.bindC (arrange_wp hC hW hP hl hln) (fun p hp => ?_)
  refine Agr.bindM (puts_wp hM ht hW hO hl) (fun p2 hp2 => ?_)
  rw [hp.1, hp2.1, hp.2.rows, hp2.2.2.rows]
  exact Agr.ok (arr_wf hW hl hln) hI rfl rfl hp2.2.1 hp.2 hp2.2.2
theorem Pk.none : Pk (sI σ 19 0 0) (pr []) := ⟨sIs, Nat.zero_le _, fun i x hx => by cases hx⟩
theorem Od.none : Od (sI u 0 16 0) [] := ⟨sIs, Nat.zero_le _, fun i x hx => by cases hx⟩
end OP16
theorem op_remove (I : Ims) (s u : St) (a0 : Int32) (h : Rl I s u) : Agr ["java/lang/IndexOutOfBoundsException"] (Rl I) (c_X3_remove s a0) (m_X4_remove u a0) := by
  obtain ⟨n, k, w, C, M, q, J, hW, hC, hM0, hI⟩ := h
  unfold c_X3_remove m_X4_remove
  have hM : RM n k w C M q J (sI u 0 0 0) := hM0.sI0 (Or.inl rfl)
  have ht : (sI u 0 0 0).1 0 0 = 0 := sIs
  generalize sI u 0 0 0 = u0 at hM ht ⊢
  simp only [needMask_eq, needWord_eq, needImage_eq, needColumn_eq hC hW, needRow_eq hC hW, needWidth_eq, xB_gX, isMask_eq, isWord_eq, isColumn_eq hM hW, isRow_eq hM hW, areIn_eq hM hW, isIn_eq, rg_if, needArgument_eq, needState_eq, Option.bind_some, if_bI, fails_eq, t64, I_m192, I_m62, I_m9, I_0, I_1, I_2, I_3, I_5, I_9, I_16, I_62, I_63, I_64, I_192, I_1000, L_m192, L_m62, L_m9, L_0, L_1, L_2, L_3, L_5, L_9, L_16, L_62, L_63, L_64, L_192, L_1000]
  by_cases h1 : inB a0 8 = true
  case neg =>
    rw [Bool.not_eq_true] at h1
    simp only [h1, Bool.false_and, Bool.and_false, Bool.and_self, Bool.true_and, Bool.and_true, Bool.false_eq_true, eq_self, if_true, if_false, reduceIte, ite_self]
    exact Agr.err hW hI 0 rfl rfl rfl sIs hC (hM.sI0 (Or.inl rfl))
  simp only [h1, Bool.false_and, Bool.and_false, Bool.and_self, Bool.true_and, Bool.and_true, Bool.false_eq_true, eq_self, if_true, if_false, reduceIte, ite_self]
  obtain ⟨m, hm, rfl⟩ := inB_ex (by decide) h1
  have hn := hW.hn
  rw [show c_X0_restart s = some (sI s 19 0 0) from rfl, Option.bind_some]
  have g0 : ([] : List Nat).length + fb_ct (fun r => M m r == false) n ≤ 192 := by
    have := fb_ct_le (fun r => M m r == false) n
    show 0 + _ ≤ _
    omega
  have hp := pickRows_wp (l := []) (hC.sI (i := 19) (j := 0) (v := 0) (by decide)) hW hm Pk.none false g0
  have ho := ordersThose_wp (l := []) (hM.sI0 (j := 16) (v := 0) (Or.inr (by decide))) (by rw [sIn (Or.inr (by decide))]; exact ht) hW hm Od.none false g0
  rw [bI_f] at hp ho
  refine Agr.bindC hp (fun τ hτ => ?_)
  refine Agr.bindM ho (fun v hv => ?_)
  rw [List.nil_append] at hτ hv
  exact Agr.arr hW hI hτ.1 hτ.2.prs hv.1 hv.2.1 hv.2.2 (fun x hx => rs_lt hx) (by rw [rs_len]; exact fb_ct_le _ _) (fun _ y => y)
theorem op_first (I : Ims) (s u : St) (a0 : Int32) (h : Rl I s u) : Agr ["java/lang/IndexOutOfBoundsException"] (Rl I) (c_X3_first s a0) (m_X4_first u a0) := by
  obtain ⟨n, k, w, C, M, q, J, hW, hC, hM0, hI⟩ := h
  unfold c_X3_first m_X4_first
  have hM : RM n k w C M q J (sI u 0 0 0) := hM0.sI0 (Or.inl rfl)
  have ht : (sI u 0 0 0).1 0 0 = 0 := sIs
  generalize sI u 0 0 0 = u0 at hM ht ⊢
  simp only [needMask_eq, needWord_eq, needImage_eq, needColumn_eq hC hW, needRow_eq hC hW, needWidth_eq, xB_gX, isMask_eq, isWord_eq, isColumn_eq hM hW, isRow_eq hM hW, areIn_eq hM hW, isIn_eq, rg_if, needArgument_eq, needState_eq, Option.bind_some, if_bI, fails_eq, t64, I_m192, I_m62, I_m9, I_0, I_1, I_2, I_3, I_5, I_9, I_16, I_62, I_63, I_64, I_192, I_1000, L_m192, L_m62, L_m9, L_0, L_1, L_2, L_3, L_5, L_9, L_16, L_62, L_63, L_64, L_192, L_1000]
  by_cases h1 : inB a0 8 = true
  case neg =>
    rw [Bool.not_eq_true] at h1
    simp only [h1, Bool.false_and, Bool.and_false, Bool.and_self, Bool.true_and, Bool.and_true, Bool.false_eq_true, eq_self, if_true, if_false, reduceIte, ite_self]
    exact Agr.err hW hI 0 rfl rfl rfl sIs hC (hM.sI0 (Or.inl rfl))
  simp only [h1, Bool.false_and, Bool.and_false, Bool.and_self, Bool.true_and, Bool.and_true, Bool.false_eq_true, eq_self, if_true, if_false, reduceIte, ite_self]
  obtain ⟨m, hm, rfl⟩ := inB_ex (by decide) h1
  have hn := hW.hn
  rw [show c_X0_restart s = some (sI s 19 0 0) from rfl, Option.bind_some]
  have h2 := rs_two (M m) n
  have g0 : ([] : List Nat).length + fb_ct (fun r => M m r == true) n ≤ 192 := by
    have := fb_ct_le (fun r => M m r == true) n
    show 0 + _ ≤ _
    omega
  have g1 : ([] ++ rs (fun r => M m r == true) n).length + fb_ct (fun r => M m r == false) n ≤ 192 := by
    rw [List.nil_append, rs_len]
    omega
  have hp := pickRows_wp (l := []) (hC.sI (i := 19) (j := 0) (v := 0) (by decide)) hW hm Pk.none true g0
  have ho := ordersThose_wp (l := []) (hM.sI0 (j := 16) (v := 0) (Or.inr (by decide))) (by rw [sIn (Or.inr (by decide))]; exact ht) hW hm Od.none true g0
  rw [bI_t] at hp ho
  refine Agr.bindC hp (fun τ hτ => ?_)
  refine Agr.bindM ho (fun v hv => ?_)
  have hp2 := pickRows_wp hτ.1 hW hm hτ.2 false g1
  have ho2 := ordersThose_wp hv.1 hv.2.1 hW hm hv.2.2 false g1
  rw [bI_f] at hp2 ho2
  refine Agr.bindC hp2 (fun τ2 hτ2 => ?_)
  refine Agr.bindM ho2 (fun v2 hv2 => ?_)
  exact Agr.arr hW hI hτ2.1 hτ2.2.prs hv2.1 hv2.2.1 hv2.2.2 (fun x hx => by
    rw [List.nil_append, List.mem_append] at hx
    rcases hx with hx | hx <;> exact rs_lt hx) (by
    rw [List.nil_append, List.length_append, rs_len, rs_len]
    omega) (fun x _ => x)
theorem op_reverse (I : Ims) (s u : St) (h : Rl I s u) : ∃ x s1 u1, c_X3_reverse s = some (x, s1) ∧ m_X4_reverse u = some (x, u1) ∧ Rl I s1 u1 := by
  obtain ⟨n, k, w, C, M, q, J, hW, hC, hM0, hI⟩ := h
  unfold c_X3_reverse m_X4_reverse
  have hM : RM n k w C M q J (sI u 0 0 0) := hM0.sI0 (Or.inl rfl)
  have ht : (sI u 0 0 0).1 0 0 = 0 := sIs
  generalize sI u 0 0 0 = u0 at hM ht ⊢
  have hn := hW.hn
  have hM1 : RM n k w C M q J (sI u0 0 16 0) := hM.sI0 (Or.inr (by decide))
  have ht1 : (sI u0 0 16 0).1 0 0 = 0 := by rw [sIn (Or.inr (by decide))]; exact ht
  have hO1 : Od (sI u0 0 16 0) [] := Od.none
  generalize sI u0 0 16 0 = u1 at hM1 ht1 hO1 ⊢
  rw [show c_X0_restart s = some (sI s 19 0 0) from rfl, Option.bind_some]
  have hC1 : RC n k w C M q (sI s 19 0 0) := hC.sI (by decide)
  have hP1 : Pk (sI s 19 0 0) (pr []) := Pk.none
  generalize sI s 19 0 0 = s1 at hC1 hP1 ⊢
  have e0 : ∀ j, j ≤ n → nI j - 1 = nI j + (-1) := fun j _ => by rw [Int32.sub_eq_add_neg]
  have hc : wp (lp 5000 (fun (s3 : Int32 × St) => (if s3.1 < 0 then some (.inr s3.2) else ((c_X0_take s3.2 s3.1 ((-9223372036854775808) : Int64)).bind fun v11 => some (.inl ((s3.1 + (-1)), v11))))) ((s1.1 1 0 - (1 : Int32)), s1)) (fun τ => RC n k w C M q τ ∧ Pk τ (pr (dn n n))) := by
    rw [hC1.rows]
    refine wp_lp n (fun i (z : Int32 × St) => z.1 = nI (n - i) + (-1) ∧ RC n k w C M q z.2 ∧ Pk z.2 (pr (dn n i))) hW.n5 ⟨e0 n (Nat.le_refl _), hC1, hP1⟩ (fun i z hi hJ => ?_) (fun z hJ => ?_)
    · obtain ⟨z1, τ⟩ := z
      obtain ⟨hz, h1, h2⟩ := hJ
      simp only at hz h1 h2
      rw [show n - i = (n - 1 - i) + 1 by omega, pk_m1] at hz
      subst hz
      obtain ⟨τ2, e2, h3, h4⟩ := h2.take (by rw [pr_len, dn_len]; omega) (n - 1 - i) ((-9223372036854775808) : Int64)
      refine ⟨Sum.inl (nI (n - (i + 1)) + (-1), τ2), ?_, rfl, rc_19 h1 h4, ?_⟩
      · show (if nI (n - 1 - i) < 0 then _ else (c_X0_take τ (nI (n - 1 - i)) ((-9223372036854775808) : Int64)).bind _) = _
        rw [if_neg (nI_pos (by omega)), e2, Option.bind_some, show n - (i + 1) = n - 1 - i by omega]
      · rw [pr_app] at h3
        exact h3
    · obtain ⟨z1, τ⟩ := z
      obtain ⟨hz, h1, h2⟩ := hJ
      simp only at hz h1 h2
      rw [Nat.sub_self] at hz
      subst hz
      exact wp_eq (if_pos dn_m1) ⟨h1, h2⟩
  have hm : wp (lp 5000 (fun (s1 : Int32 × St) => (if s1.1 < 0 then some (.inr s1.2) else ((m_X4_orders s1.2 s1.1).bind fun v9 => some (.inl ((s1.1 + (-1)), v9))))) ((u1.1 0 5 - (1 : Int32)), u1)) (fun v => RM n k w C M q J v ∧ v.1 0 0 = 0 ∧ Od v (dn n n)) := by
    rw [hM1.rows]
    refine wp_lp n (fun i (z : Int32 × St) => z.1 = nI (n - i) + (-1) ∧ RM n k w C M q J z.2 ∧ z.2.1 0 0 = 0 ∧ Od z.2 (dn n i)) hW.n5 ⟨e0 n (Nat.le_refl _), hM1, ht1, hO1⟩ (fun i z hi hJ => ?_) (fun z hJ => ?_)
    · obtain ⟨z1, v⟩ := z
      obtain ⟨hz, h1, h0, h2⟩ := hJ
      simp only at hz h1 h0 h2
      rw [show n - i = (n - 1 - i) + 1 by omega, pk_m1] at hz
      subst hz
      obtain ⟨v2, e2, h3, h4, h5, h6⟩ := h2.add (by rw [dn_len]; omega) (n - 1 - i)
      refine ⟨Sum.inl (nI (n - (i + 1)) + (-1), v2), ?_, rfl, rm_od h1 h4 h5 h6, ?_, h3⟩
      · show (if nI (n - 1 - i) < 0 then _ else (m_X4_orders v (nI (n - 1 - i))).bind _) = _
        rw [if_neg (nI_pos (by omega)), e2, Option.bind_some, show n - (i + 1) = n - 1 - i by omega]
      · show v2.1 0 0 = 0
        rw [h5 0 (by decide)]; exact h0
    · obtain ⟨z1, v⟩ := z
      obtain ⟨hz, h1, h0, h2⟩ := hJ
      simp only at hz h1 h0 h2
      rw [Nat.sub_self] at hz
      subst hz
      exact wp_eq (if_pos dn_m1) ⟨h1, h0, h2⟩
  obtain ⟨τ, ec, g1, g2⟩ := hc
  obtain ⟨v, em, g3, g4, g5⟩ := hm
  have hl : ∀ x, x ∈ dn n n → x < n := fun x hx => dn_lt (Nat.le_refl _) hx
  have hln : (dn n n).length ≤ n := by rw [dn_len]; exact Nat.le_refl _
  obtain ⟨p, ep, f1, f2⟩ := arrange_wp g1 hW g2.prs hl hln
  obtain ⟨p2, ep2, f3, f4, f5⟩ := puts_wp g3 g4 hW g5 hl
  refine ⟨nI (dn n n).length, p.2, p2.2, ?_, ?_, _, k, w, _, _, q, J, arr_wf hW hl hln, f2, f5, hI⟩
  · rw [ec, Option.bind_some, ep, Option.bind_some, f2.rows]
  · rw [em, Option.bind_some, ep2, Option.bind_some, f5.rows]
