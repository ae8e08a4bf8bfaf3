/-! ===== keep: the reference's state ===== -/
def upS (I : Ims) (x : Nat) (τ : St) : Ims := fun j => if j = x then some τ else I j
section KP
variable {n k : Nat} {w : Nat → Nat} {C : Nat → Nat → Int64} {M : Nat → Nat → Bool} {q : Int32} {u u' J : St} {x : Nat}
theorem RM.self (h : RM n k w C M q J u) (hf : ∀ j, j < 13 → u'.1 j = u.1 j ∧ u'.2 j = u.2 j) : RM n k w C M q u' u' := by
  refine ⟨by rw [(hf 0 (by decide)).1]; exact h.rows, by rw [(hf 0 (by decide)).1]; exact h.cols, by rw [(hf 0 (by decide)).1]; exact h.kept, fun c hc => by rw [(hf 3 (by decide)).1]; exact h.wid hc, fun c r hc hr => by rw [(hf 2 (by decide)).1]; exact h.has hc hr, fun c r hc hr hN => by rw [(hf 1 (by decide)).2]; exact h.cell hc hr hN, fun m r hm hr => by rw [(hf 4 (by decide)).1]; exact h.msk hm hr, fun i hi => ⟨rfl, rfl⟩⟩
theorem rg01 (hx : x < 2) : rg ((nI x).toInt64).toInt (0 : Int64).toInt (1 : Int64).toInt = true := by
  rw [t64, nI_toInt (by omega), show (0 : Int64).toInt = 0 from by decide, show (1 : Int64).toInt = 1 from by decide]
  unfold rg
  rw [Bool.and_eq_true, decide_eq_true_eq, decide_eq_true_eq]
  omega
theorem keepM_wp (hx : x < 2) (u : St) : ∃ S, m_X4_keep u (nI x) = some (S.1 0 5, S) ∧ (∀ j, j < 13 → S.1 j = (sI u 0 0 0).1 j ∧ S.2 j = (sI u 0 0 0).2 j) ∧ (∀ i, i < 1152 → S.2 13 (1152 * x + i) = (sI u 0 0 0).2 1 i) ∧ (∀ b, b < 1152 * x ∨ 1152 * x + 1152 ≤ b → S.2 13 b = (sI u 0 0 0).2 13 b) ∧ (∀ i, i < 1152 → S.1 14 (1152 * x + i) = nz ((sI u 0 0 0).1 2 i)) ∧ (∀ b, b < 1152 * x ∨ 1152 * x + 1152 ≤ b → S.1 14 b = (sI u 0 0 0).1 14 b) ∧ (∀ i, i < 1536 → S.1 15 (1536 * x + i) = nz ((sI u 0 0 0).1 4 i)) ∧ (∀ b, b < 1536 * x ∨ 1536 * x + 1536 ≤ b → S.1 15 b = (sI u 0 0 0).1 15 b) ∧ (∀ i, i < 6 → S.1 16 (6 * x + i) = (sI u 0 0 0).1 3 i) ∧ (∀ b, b < 6 * x ∨ 6 * x + 6 ≤ b → S.1 16 b = (sI u 0 0 0).1 16 b) ∧ (∀ b, S.1 17 b = if b = x then (sI u 0 0 0).1 0 5 else (sI u 0 0 0).1 17 b) ∧ (∀ b, S.1 18 b = if b = x then (sI u 0 0 0).1 0 6 else (sI u 0 0 0).1 18 b) ∧ ∀ b, S.1 19 b = if b = x then 1 else (sI u 0 0 0).1 19 b := by
  unfold m_X4_keep
  generalize sI u 0 0 0 = v
  rw [isIn_eq, Option.bind_some, if_bI, if_pos (rg01 hx), kL1 hx, Option.bind_some, kL2 hx, Option.bind_some, kL3 hx, Option.bind_some, ix2 hx, Option.bind_some, Option.bind_some, Option.bind_some]
  refine ⟨_, rfl, fun j hj => ⟨?_, ?_⟩, fun i hi => ?_, fun b hb => ?_, fun i hi => ?_, fun b hb => ?_, fun i hi => ?_, fun b hb => ?_, fun i hi => ?_, fun b hb => ?_, fun b => ?_, fun b => ?_, fun b => ?_⟩
  · rw [sI_ne (by omega), sI_ne (by omega), sI_ne (by omega), fI_ne (by omega), fI_ne (by omega), fI_ne (by omega), fL1]
  · rw [sI2, sI2, sI2, fI2, fI2, fI2, fL_ne (by omega)]
  · rw [sI2, sI2, sI2, fI2, fI2, fI2, fL_in hi]
  · rw [sI2, sI2, sI2, fI2, fI2, fI2, fL_out hb]
  · rw [sI_ne (by omega), sI_ne (by omega), sI_ne (by omega), fI_ne (by omega), fI_ne (by omega), fI_in hi]
  · rw [sI_ne (by omega), sI_ne (by omega), sI_ne (by omega), fI_ne (by omega), fI_ne (by omega), fI_out hb, fL1]
  · rw [sI_ne (by omega), sI_ne (by omega), sI_ne (by omega), fI_ne (by omega), fI_in hi, fI_ne (by omega), fL1]
  · rw [sI_ne (by omega), sI_ne (by omega), sI_ne (by omega), fI_ne (by omega), fI_out hb, fI_ne (by omega), fL1]
  · rw [sI_ne (by omega), sI_ne (by omega), sI_ne (by omega), fI_in hi, fI_ne (by omega), fI_ne (by omega), fL1]
  · rw [sI_ne (by omega), sI_ne (by omega), sI_ne (by omega), fI_out hb, fI_ne (by omega), fI_ne (by omega), fL1]
  · rw [sI_ne (by omega), sI_ne (by omega), sI1]
    by_cases e : b = x
    · rw [if_pos ⟨rfl, e⟩, if_pos e, fI_ne (by omega), fI_ne (by omega), fI_ne (by omega), fL1]
    · rw [if_neg (fun z => e z.2), if_neg e, fI_ne (by omega), fI_ne (by omega), fI_ne (by omega), fL1]
  · rw [sI_ne (by omega), sI1]
    by_cases e : b = x
    · rw [if_pos ⟨rfl, e⟩, if_pos e, sI_ne (by omega), fI_ne (by omega), fI_ne (by omega), fI_ne (by omega), fL1]
    · rw [if_neg (fun z => e z.2), if_neg e, sI_ne (by omega), fI_ne (by omega), fI_ne (by omega), fI_ne (by omega), fL1]
  · rw [sI1]
    by_cases e : b = x
    · rw [if_pos ⟨rfl, e⟩, if_pos e]; rfl
    · rw [if_neg (fun z => e z.2), if_neg e, sI_ne (by omega), sI_ne (by omega), fI_ne (by omega), fI_ne (by omega), fI_ne (by omega), fL1]
end KP
