/-! ===== back ===== -/
theorem ub_1 {s τ : St} {i j : Nat} (h : i < 18) (hj : j = i + 1) : (ub s τ).1 j = τ.1 i := by
  subst hj
  show (if 1 ≤ i + 1 ∧ i + 1 ≤ 18 then τ.1 (i + 1 - 1) else s.1 (i + 1)) = _
  rw [if_pos (by omega), Nat.add_sub_cancel]
theorem ub_2 {s τ : St} {i j : Nat} (h : i < 18) (hj : j = i + 1) : (ub s τ).2 j = τ.2 i := by
  subst hj
  show (if 1 ≤ i + 1 ∧ i + 1 ≤ 18 then τ.2 (i + 1 - 1) else s.2 (i + 1)) = _
  rw [if_pos (by omega), Nat.add_sub_cancel]
theorem op_back (I : Ims) (s u : St) {x : Nat} (hx : x < 2) {τ : St} (hIx : I x = some τ) (h : Rl I s u) : ∃ u1, m_X4_back u (nI x) = some (τ.1 0 0, u1) ∧ u1.1 0 0 = 0 ∧ Rl I (ub s τ) u1 := by
  obtain ⟨n, k, w, C, M, q, J, hW, hC, hM0, hI⟩ := h
  have hM : RM n k w C M q J (sI u 0 0 0) := hM0.sI0 (Or.inl rfl)
  have ht : (sI u 0 0 0).1 0 0 = 0 := sIs
  unfold m_X4_back
  generalize sI u 0 0 0 = v at *
  have h1 := hI x hx
  rw [hIx] at h1
  obtain ⟨a0, n', k', w', C', M', hW', ⟨c1, c2, c3, c4, c5⟩, b1, b2, b3, b4, b5, b6⟩ := h1
  have hk6 := hW'.hk
  have e19 : ¬ v.1 19 x = 0 := by rw [(hM.img (by decide)).1, a0]; decide
  rw [isIn_eq, Option.bind_some, if_bI, if_pos (rg01 hx), ix2 hx, Option.bind_some, if_neg e19, bL1 hx, Option.bind_some, bL2 hx, Option.bind_some, bL3 hx, Option.bind_some, Option.bind_some, Option.bind_some]
  have i1 : ∀ i, 13 ≤ i → v.1 i = J.1 i := fun i hi => (hM.img hi).1
  have i2 : ∀ i, 13 ≤ i → v.2 i = J.2 i := fun i hi => (hM.img hi).2
  have d1 : ∀ j, j ≠ 2 → j ≠ 3 → j ≠ 4 → (fI (fI (fI (fL v 1 0 (fun i => v.2 13 (1152 * x + i)) 1152) 2 0 (fun i => nz (v.1 14 (1152 * x + i))) 1152) 4 0 (fun i => nz ((fI (fL v 1 0 (fun i => v.2 13 (1152 * x + i)) 1152) 2 0 (fun i => nz (v.1 14 (1152 * x + i))) 1152).1 15 (1536 * x + i))) 1536) 3 0 (fun i => (fI (fI (fL v 1 0 (fun i => v.2 13 (1152 * x + i)) 1152) 2 0 (fun i => nz (v.1 14 (1152 * x + i))) 1152) 4 0 (fun i => nz ((fI (fL v 1 0 (fun i => v.2 13 (1152 * x + i)) 1152) 2 0 (fun i => nz (v.1 14 (1152 * x + i))) 1152).1 15 (1536 * x + i))) 1536).1 16 (6 * x + i)) 6).1 j = v.1 j := fun j h2 h3 h4 => by
    rw [fI_ne h3, fI_ne h4, fI_ne h2, fL1]
  refine ⟨_, congrArg some (Prod.ext ?_ rfl), ?_, n', k', w', C', M', q, J, hW', ⟨⟨hk6, ?_⟩, ?_, ?_, fun c hc => ?_, fun c r hc hr => ?_, fun m r hm hr => ?_⟩, ⟨?_, ?_, ?_, fun c hc => ?_, fun c r hc hr => ?_, fun c r hc hr hN => ?_, fun m r hm hr => ?_, fun i hi => ⟨?_, ?_⟩⟩, hI⟩
  · dsimp only
    rw [sIn (Or.inr (by decide)), sIs, d1 17 (by decide) (by decide) (by decide), i1 17 (by decide), b1, c1]
  · rw [sIn (Or.inr (by decide)), sIn (Or.inr (by decide)), d1 0 (by decide) (by decide) (by decide)]; exact ht
  · rw [ub_1 (i := 0) (by decide) rfl]; exact c1
  · rw [ub_1 (i := 0) (by decide) rfl]; exact c2
  · exact hC.kept
  · rw [ub_1 (i := 1) (by decide) rfl]; exact c3 c hc
  · rw [ub_2 (i := 3 + c) (by omega) (by omega)]; exact c4 c r hc hr
  · rw [ub_2 (i := 10 + m) (by omega) (by omega)]; exact c5 m r hm hr
  · rw [sIn (Or.inr (by decide)), sIs, d1 17 (by decide) (by decide) (by decide), i1 17 (by decide)]; exact b1
  · rw [sIs, sI_ne (by decide), d1 18 (by decide) (by decide) (by decide), i1 18 (by decide)]; exact b2
  · rw [sIn (Or.inr (by decide)), sIn (Or.inr (by decide)), d1 0 (by decide) (by decide) (by decide)]; exact hM.kept
  · have := hW'.c6 hc
    rw [sI_ne (by decide), sI_ne (by decide), fI_in0 (by omega), fI_ne (by decide), fI_ne (by decide), fL1, i1 16 (by decide)]; exact b3 c hc
  · have := hW'.c6 hc
    rw [sI_ne (by decide), sI_ne (by decide), fI_ne (by decide), fI_ne (by decide), fI_in0 (by omega), i1 14 (by decide), b4 c r hc hr, nz_bI]
  · have := hW'.c6 hc
    have := hW'.r192 hr
    rw [sI2, sI2, fI2, fI2, fI2, fL_in0 (by omega), i2 13 (by decide)]; exact b5 c r hc hr hN
  · rw [sI_ne (by decide), sI_ne (by decide), fI_ne (by decide), fI_in0 (by omega), fI_ne (by decide), fL1, i1 15 (by decide), b6 m r hm hr, nz_bI]
  · rw [sI_ne (by omega), sI_ne (by omega), d1 i (by omega) (by omega) (by omega)]; exact i1 i hi
  · rw [sI2, sI2, fI2, fI2, fI2, fL_ne (by omega)]; exact i2 i hi
theorem op_back_n (I : Ims) (s u : St) {x : Nat} (hx : x < 2) (hIx : I x = none) (h : Rl I s u) : ∃ u1, m_X4_back u (nI x) = some (0, u1) ∧ u1.1 0 0 = 2 ∧ Rl I s u1 := by
  obtain ⟨n, k, w, C, M, q, J, hW, hC, hM0, hI⟩ := h
  have hM : RM n k w C M q J (sI u 0 0 0) := hM0.sI0 (Or.inl rfl)
  unfold m_X4_back
  generalize sI u 0 0 0 = v at *
  have h1 := hI x hx
  rw [hIx] at h1
  have e19 : v.1 19 x = 0 := by rw [(hM.img (by decide)).1]; exact h1
  rw [isIn_eq, Option.bind_some, if_bI, if_pos (rg01 hx), ix2 hx, Option.bind_some, if_pos e19, fails_eq, Option.bind_some]
  exact ⟨_, rfl, sIs, n, k, w, C, M, q, J, hW, hC, hM.sI0 (Or.inl rfl), hI⟩
theorem op_back_e (I : Ims) (s u : St) {a : Int32} (ha : inB a 2 = false) (h : Rl I s u) : ∃ u1, m_X4_back u a = some (0, u1) ∧ u1.1 0 0 = 1 ∧ Rl I s u1 := by
  obtain ⟨n, k, w, C, M, q, J, hW, hC, hM0, hI⟩ := h
  have hM : RM n k w C M q J (sI u 0 0 0) := hM0.sI0 (Or.inl rfl)
  unfold m_X4_back
  generalize sI u 0 0 0 = v at *
  have hr : rg (a.toInt64).toInt (0 : Int64).toInt (1 : Int64).toInt = false := by
    rw [t64, show (0 : Int64).toInt = 0 from by decide, show (1 : Int64).toInt = ((2 : Nat) : Int) - 1 from by decide, rg_inB]
    exact ha
  rw [isIn_eq, Option.bind_some, if_bI, hr, if_neg (by decide), fails_eq, Option.bind_some]
  exact ⟨_, rfl, sIs, n, k, w, C, M, q, J, hW, hC, hM.sI0 (Or.inl rfl), hI⟩
