/-! ===== the class's table after its columns are put ===== -/
def cArr (l : List Nat) (C : Nat → Nat → Int64) : Nat → Nat → Int64 := fun c r => if r < l.length then C c (l.getD r 0) else C c r
section AR2
variable {n k : Nat} {w : Nat → Nat} {C : Nat → Nat → Int64} {M : Nat → Nat → Bool} {q : Int32} {σ τ : St} {l : List Nat}
theorem acols_rc (hC : RC n k w C M q σ) (hk : k ≤ 6) (h1 : τ.1 = σ.1) (h2 : ∀ j, j ≠ 27 → ¬ (4 ≤ j ∧ j < 4 + k) → τ.2 j = σ.2 j) (h3 : ∀ c i, c < k → i < l.length → τ.2 (4 + c) i = C c (l.getD i 0)) (h4 : ∀ c i, c < k → l.length ≤ i → τ.2 (4 + c) i = σ.2 (4 + c) i) : RC n k w (cArr l C) M q τ := by
  obtain ⟨g1, g2, g3, g4, g5, g6⟩ := hC
  refine ⟨?_, ?_, ?_, ?_, fun c r hc hr => ?_, fun m r hm hr => ?_⟩
  · rw [h1]; exact g1
  · rw [h1]; exact g2
  · rw [h1]; exact g3
  · rw [h1]; exact g4
  · unfold cArr
    by_cases e : r < l.length
    · rw [if_pos e]; exact h3 c r hc e
    · rw [if_neg e, h4 c r hc (by omega)]; exact g5 c r hc hr
  · rw [h2 (11 + m) (by omega) (by omega)]; exact g6 m r hm hr
def mArr (l : List Nat) (M : Nat → Nat → Bool) : Nat → Nat → Bool := fun m r => decide (r < l.length) && M m (l.getD r 0)
theorem cArr_wf (hW : Wf n k w C M) (hl : ∀ x, x ∈ l → x < n) : Wf n k w (cArr l C) M := by
  obtain ⟨g1, g2, g3, g4, g5⟩ := hW
  refine ⟨g1, g2, g3, fun c r hc hr => ?_, g5⟩
  unfold cArr
  by_cases e : r < l.length
  · rw [if_pos e]; exact g4 c _ hc (getD_lt hl e)
  · rw [if_neg e]; exact g4 c r hc hr
theorem arr_wf (hW : Wf n k w C M) (hl : ∀ x, x ∈ l → x < n) (hln : l.length ≤ n) : Wf l.length k w (cArr l C) (mArr l M) := by
  have h := cArr_wf (l := l) hW hl
  obtain ⟨g1, g2, g3, g4, g5⟩ := h
  refine ⟨by omega, g2, g3, fun c r hc hr => g4 c r hc (by omega), fun m r hm hr => ?_⟩
  unfold mArr at hr
  rw [Bool.and_eq_true, decide_eq_true_eq] at hr
  exact hr.1
end AR2
