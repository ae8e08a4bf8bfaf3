/-! ===== keep ===== -/
theorem op_keep (I : Ims) (s u : St) {x : Nat} (hx : x < 2) (h : Rl I s u) : ∃ u1, m_X4_keep u (nI x) = some (s.1 1 0, u1) ∧ u1.1 0 0 = 0 ∧ Rl (upS I x (tb s)) s u1 := by
  obtain ⟨n, k, w, C, M, q, J, hW, hC, hM0, hI⟩ := h
  have hM : RM n k w C M q J (sI u 0 0 0) := hM0.sI0 (Or.inl rfl)
  have ht : (sI u 0 0 0).1 0 0 = 0 := sIs
  obtain ⟨S, eS, f0, f13, g13, f14, g14, f15, g15, f16, g16, f17, f18, f19⟩ := keepM_wp hx u
  generalize sI u 0 0 0 = v at *
  have hMS := hM.self f0
  refine ⟨S, by rw [eS, hMS.rows, hC.rows], by rw [(f0 0 (by decide)).1]; exact ht, n, k, w, C, M, q, S, hW, hC, hMS, fun y hy => ?_⟩
  by_cases e : y = x
  · subst e
    have e1 : upS I y (tb s) y = some (tb s) := if_pos rfl
    rw [e1]
    refine ⟨by rw [f19, if_pos rfl], n, k, w, C, M, hW, ⟨hC.rows, hC.cols, fun c hc => hC.wid hc, fun c r hc hr => ?_, fun m r hm hr => ?_⟩, by rw [f17, if_pos rfl]; exact hM.rows, by rw [f18, if_pos rfl]; exact hM.cols, fun c hc => by rw [f16 c (hW.c6 hc)]; exact hM.wid hc, fun c r hc hr => ?_, fun c r hc hr hN => ?_, fun m r hm hr => ?_⟩
    · show s.2 (3 + c + 1) r = _
      rw [show 3 + c + 1 = 4 + c by omega]; exact hC.cell hc hr
    · show lb (s.2 (10 + m + 1) (r / 64)) (r % 64) = _
      rw [show 10 + m + 1 = 11 + m by omega]; exact hC.bit hm hr
    · have := hW.c6 hc
      rw [f14 _ (by omega), hM.has hc hr, nz_bI]
    · have := hW.c6 hc
      have := hW.r192 hr
      rw [f13 _ (by omega)]; exact hM.cell hc hr hN
    · rw [f15 _ (by omega), hM.msk hm hr, nz_bI]
  · have e1 : upS I x (tb s) y = I y := if_neg e
    rw [e1]
    have h1 := hI y hy
    cases hy2 : I y with
    | none =>
      rw [hy2] at h1
      show S.1 19 y = 0
      rw [f19, if_neg e, (hM.img (by decide)).1]
      exact h1
    | some τ =>
      rw [hy2] at h1
      obtain ⟨a0, n', k', w', C', M', hW', b0, b1, b2, b3, b4, b5, b6⟩ := h1
      refine ⟨by rw [f19, if_neg e, (hM.img (by decide)).1]; exact a0, n', k', w', C', M', hW', b0, by rw [f17, if_neg e, (hM.img (by decide)).1]; exact b1, by rw [f18, if_neg e, (hM.img (by decide)).1]; exact b2, fun c hc => ?_, fun c r hc hr => ?_, fun c r hc hr hN => ?_, fun m r hm hr => ?_⟩
      · have := hW'.c6 hc
        rw [g16 _ (by omega), (hM.img (by decide)).1]; exact b3 c hc
      · have := hW'.c6 hc
        rw [g14 _ (by omega), (hM.img (by decide)).1]; exact b4 c r hc hr
      · have := hW'.c6 hc
        have := hW'.r192 hr
        rw [g13 _ (by omega), (hM.img (by decide)).2]; exact b5 c r hc hr hN
      · rw [g15 _ (by omega), (hM.img (by decide)).1]; exact b6 m r hm hr
theorem op_keep_e (I : Ims) (s u : St) {a : Int32} (ha : inB a 2 = false) (h : Rl I s u) : ∃ u1, m_X4_keep u a = some (0, u1) ∧ u1.1 0 0 = 1 ∧ Rl I s u1 := by
  obtain ⟨n, k, w, C, M, q, J, hW, hC, hM0, hI⟩ := h
  have hM : RM n k w C M q J (sI u 0 0 0) := hM0.sI0 (Or.inl rfl)
  unfold m_X4_keep
  generalize sI u 0 0 0 = v at *
  have hr : rg (a.toInt64).toInt (0 : Int64).toInt (1 : Int64).toInt = false := by
    rw [t64, show (0 : Int64).toInt = 0 from by decide, show (1 : Int64).toInt = ((2 : Nat) : Int) - 1 from by decide, rg_inB]
    exact ha
  rw [isIn_eq, Option.bind_some, if_bI, hr, if_neg (by decide), fails_eq, Option.bind_some]
  exact ⟨_, rfl, sIs, n, k, w, C, M, q, J, hW, hC, hM.sI0 (Or.inl rfl), hI⟩
