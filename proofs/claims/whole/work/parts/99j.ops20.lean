/-! ===== upset ===== -/
def gu (p : Nat → Bool) (g : Nat → Int64) (n : Nat) : Nat → List (Nat × Int64)
  | 0 => []
  | d + 1 => (if p (n - d - 1) = true then [(n - d - 1, g (n - d - 1))] else []) ++ gu p g n d
def sf (p : Nat → Bool) (g : Nat → Int64) (n r : Nat) : List (Nat × Int64) := gu p g n (n - r)
section UPS
variable {p : Nat → Bool} {g : Nat → Int64} {n r : Nat}
theorem sf_n : sf p g n n = [] := by unfold sf; rw [Nat.sub_self]; rfl
theorem sf_at (hr : r < n) : sf p g n r = (if p r = true then [(r, g r)] else []) ++ sf p g n (r + 1) := by
  unfold sf
  rw [show n - r = (n - (r + 1)) + 1 by omega, gu, show n - (n - (r + 1)) - 1 = r by omega]
theorem gl_sf : ∀ d, d ≤ n → gl p g n = gl p g (n - d) ++ sf p g n (n - d)
  | 0, _ => by rw [Nat.sub_zero, sf_n, List.append_nil]
  | d + 1, h => by
    rw [gl_sf d (by omega), show n - d = (n - (d + 1)) + 1 by omega, gl, sf_at (r := n - (d + 1)) (by omega), List.append_assoc]
theorem sf_0 : sf p g n 0 = gl p g n := by
  have := gl_sf (p := p) (g := g) (n := n) n (Nat.le_refl _)
  rw [Nat.sub_self, gl, List.nil_append] at this
  exact this.symm
def upX (p : Nat → Bool) (g : Nat → Int64) (n r b : Nat) : Nat := (sf p g n b).countP (fun y => !leP false (r, g r) y)
theorem upX_at {b : Nat} (hb : b < n) : upX p g n r b = (if (p b && !decide (g r ≤ g b)) = true then 1 else 0) + upX p g n r (b + 1) := by
  unfold upX
  rw [sf_at hb, List.countP_append]
  congr 1
  have e : (!leP false (r, g r) (b, g b)) = !decide (g r ≤ g b) := by
    unfold leP ahd
    rw [if_neg (by decide), Bool.not_not]
  cases hp : p b
  · rfl
  · rw [if_pos rfl, List.countP_singleton, e, Bool.true_and]
theorem iv_at (hr : r < n) : iv (leP false) (sf p g n r) = (if p r = true then upX p g n r (r + 1) else 0) + iv (leP false) (sf p g n (r + 1)) := by
  rw [sf_at hr]
  by_cases h : p r = true
  · rw [if_pos h, if_pos h]
    rfl
  · rw [if_neg h, if_neg h, List.nil_append, Nat.zero_add]
end UPS
theorem op_upset (I : Ims) (s u : St) (a0 a1 : Int32) (h : Rl I s u) : Agr ["java/lang/IndexOutOfBoundsException"] (Rl I) (c_X3_upset s a0 a1) (m_X4_upset u a0 a1) := by
  obtain ⟨n, k, w, C, M, q, J, hW, hC, hM0, hI⟩ := h
  unfold c_X3_upset m_X4_upset
  have hM : RM n k w C M q J (sI u 0 0 0) := hM0.sI0 (Or.inl rfl)
  have ht : (sI u 0 0 0).1 0 0 = 0 := sIs
  generalize sI u 0 0 0 = u0 at hM ht ⊢
  simp only [needMask_eq, needWord_eq, needImage_eq, needColumn_eq hC hW, needRow_eq hC hW, needWidth_eq, xB_gX, isMask_eq, isWord_eq, isColumn_eq hM hW, isRow_eq hM hW, areIn_eq hM hW, isIn_eq, rg_if, needArgument_eq, needState_eq, Option.bind_some, if_bI, fails_eq, t64, I_m192, I_m62, I_m9, I_0, I_1, I_2, I_3, I_5, I_9, I_16, I_62, I_63, I_64, I_192, I_1000, L_m192, L_m62, L_m9, L_0, L_1, L_2, L_3, L_5, L_9, L_16, L_62, L_63, L_64, L_192, L_1000]
  by_cases h1 : inB a0 k = true
  case neg =>
    rw [Bool.not_eq_true] at h1
    simp only [h1, Bool.false_and, Bool.and_false, Bool.and_self, Bool.true_and, Bool.and_true, Bool.false_eq_true, eq_self, if_true, if_false, reduceIte, ite_self]
    exact Agr.err hW hI 0 rfl rfl rfl sIs hC (hM.sI0 (Or.inl rfl))
  by_cases h2 : inB a1 8 = true
  case neg =>
    rw [Bool.not_eq_true] at h2
    simp only [h1, h2, Bool.false_and, Bool.and_false, Bool.and_self, Bool.true_and, Bool.and_true, Bool.false_eq_true, eq_self, if_true, if_false, reduceIte, ite_self]
    exact Agr.err hW hI 0 rfl rfl rfl sIs hC (hM.sI0 (Or.inl rfl))
  simp only [h1, h2, Bool.false_and, Bool.and_false, Bool.and_self, Bool.true_and, Bool.and_true, Bool.false_eq_true, eq_self, if_true, if_false, reduceIte, ite_self]
  obtain ⟨c, hc, rfl⟩ := inB_ex hW.k31 h1
  obtain ⟨m, hm, rfl⟩ := inB_ex (by decide) h2
  have hc6 := hW.c6 hc
  have hn := hW.hn
  have hs := sorted_wp hC hW hc hm false
  rw [bI_f] at hs
  obtain ⟨z, ez, e1, hCz, -⟩ := hs
  have e2 : ((c_X3_gather s (nI c) (nI m)).bind fun v9 => (c_X0_putInOrder v9 (0 : Int32)).bind fun v11 => some ((Except.ok v11.1 : Except String Int32), v11.2)) = some (.ok z.1, z.2) := by
    cases hg : c_X3_gather s (nI c) (nI m) with
    | none => rw [hg] at ez; cases ez
    | some x =>
      rw [hg, Option.bind_some] at ez
      rw [Option.bind_some, ez, Option.bind_some]
  rw [e2, e1]
  refine Agr.bindM (P := fun x => x = nI (iv (leP false) (gl (fun r => C c r != ((-9223372036854775808) : Int64) && M m r) (C c) n))) ?_ (fun x hx => ?_)
  · refine wp_lp n (fun r (z : Int32 × Int32) => z.2 = nI r ∧ ∃ T : Nat, z.1 = nI T ∧ T + iv (leP false) (sf (fun r => C c r != ((-9223372036854775808) : Int64) && M m r) (C c) n r) = iv (leP false) (gl (fun r => C c r != ((-9223372036854775808) : Int64) && M m r) (C c) n)) hW.n5 ⟨rfl, 0, rfl, by rw [sf_0, Nat.zero_add]⟩ (fun r z hr hJ => ?_) (fun z hJ => ?_)
    · obtain ⟨z1, z2⟩ := z
      obtain ⟨g1, T, g2, g3⟩ := hJ
      simp only at g1 g2
      subst g1 g2
      have hr2 := hW.r192 hr
      show wp (if u0.1 0 5 ≤ nI r then _ else (m_X4_hasUnder u0 (nI c) (nI r) (nI m)).bind _) _
      rw [hM.rows, if_neg (ltL n hW.n31 hr), hasUnder_eq hM hW hc hr2 hm, Option.bind_some, if_bI]
      rw [iv_at hr] at g3
      by_cases e : (C c r != ((-9223372036854775808) : Int64) && M m r) = true
      · rw [if_pos e]
        rw [if_pos e] at g3
        have hN := nbN (Bool.and_eq_true_iff.mp e).1
        refine wp_bm (Q := fun x => x = nI (T + upX (fun r => C c r != ((-9223372036854775808) : Int64) && M m r) (C c) n r (r + 1))) (wp_bm (Q := fun x => x = nI (T + upX (fun r => C c r != ((-9223372036854775808) : Int64) && M m r) (C c) n r (r + 1))) ?_ (fun x hx => wp_some hx)) (fun x hx => wp_some ⟨nI_s r, _, hx, by omega⟩)
        refine wp_lpm (r + 1) n (fun b (z : Int32 × Int32) => z.2 = nI b ∧ ∃ S : Nat, z.1 = nI S ∧ S + upX (fun r => C c r != ((-9223372036854775808) : Int64) && M m r) (C c) n r b = T + upX (fun r => C c r != ((-9223372036854775808) : Int64) && M m r) (C c) n r (r + 1)) hr hW.n5 ⟨nI_s r, T, rfl, rfl⟩ (fun b z hb1 hb hJ => ?_) (fun z hJ => ?_)
        · obtain ⟨z1, z2⟩ := z
          obtain ⟨f1, S, f2, f3⟩ := hJ
          simp only at f1 f2
          subst f1 f2
          have hb2 := hW.r192 hb
          rw [upX_at hb] at f3
          refine ⟨Sum.inl (nI (S + (if ((C c b != ((-9223372036854775808) : Int64) && M m b) && !decide (C c r ≤ C c b)) = true then 1 else 0)), nI (b + 1)), ?_, rfl, _, rfl, by omega⟩
          show (if nI n ≤ nI b then _ else (m_X4_hasUnder u0 (nI c) (nI b) (nI m)).bind fun v26 => ((if v26 = 0 then some (0 : Int32) else ((m_X4_at u0 (nI c) (nI r)).bind fun v32 => ((ix v32 1152).bind fun j34 => ((m_X4_at u0 (nI c) (nI b)).bind fun v36 => ((ix v36 1152).bind fun j38 => (if u0.2 1 j34 ≤ u0.2 1 j38 then some (0 : Int32) else some (1 : Int32))))))).bind fun (t28 : Int32) => ((m_X4_flag u0 t28).bind fun v41 => some (Sum.inl (nI S + v41, nI b + 1))))) = _
          rw [if_neg (ltL n hW.n31 hb), hasUnder_eq hM hW hc hb2 hm, Option.bind_some, if_bI, at_eq, Option.bind_some, ixA hc6 hr2, Option.bind_some, at_eq, Option.bind_some, ixA hc6 hb2, Option.bind_some, hM.cell hc hr hN]
          by_cases e3 : (C c b != ((-9223372036854775808) : Int64) && M m b) = true
          · have hN2 := nbN (Bool.and_eq_true_iff.mp e3).1
            rw [if_pos e3, hM.cell hc hb hN2, s01, Option.bind_some, flag_eq, Option.bind_some, e3, Bool.true_and, bI_nI]
            show some (Sum.inl (nI S + nI _, nI b + 1)) = _
            rw [nI_add, nI_s]
          · rw [if_neg e3, Option.bind_some, Bool.not_eq_true _ |>.mp e3, Bool.false_and, if_neg (by decide)]
            show ((m_X4_flag u0 (bI false)).bind _) = _
            rw [flag_eq, Option.bind_some]
            show some (Sum.inl (nI S + nI 0, nI b + 1)) = _
            rw [nI_add, nI_s]
        · obtain ⟨z1, z2⟩ := z
          obtain ⟨f1, S, f2, f3⟩ := hJ
          simp only at f1 f2
          subst f1 f2
          have e0 : upX (fun r => C c r != ((-9223372036854775808) : Int64) && M m r) (C c) n r n = 0 := by unfold upX; rw [sf_n]; rfl
          rw [e0, Nat.add_zero] at f3
          show wp (if nI n ≤ nI n then _ else _) _
          rw [if_pos (geL n hW.n31)]
          exact wp_some (by show nI S = _; rw [f3])
      · rw [if_neg e, Option.bind_some]
        rw [if_neg e, Nat.zero_add] at g3
        exact wp_some ⟨nI_s r, T, rfl, g3⟩
    · obtain ⟨z1, z2⟩ := z
      obtain ⟨g1, T, g2, g3⟩ := hJ
      simp only at g1 g2
      subst g1 g2
      rw [sf_n, iv, Nat.add_zero] at g3
      show wp (if u0.1 0 5 ≤ nI n then _ else _) _
      rw [hM.rows, if_pos (geL n hW.n31)]
      exact wp_some (by show nI T = _; rw [g3])
  · subst hx
    exact Agr.ok hW hI rfl rfl ht hCz hM
