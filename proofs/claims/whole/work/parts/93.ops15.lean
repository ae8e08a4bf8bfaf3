/-! ===== mask ===== -/
theorem tri3 (p q r : Prop) [Decidable p] [Decidable q] [Decidable r] : (if p then some (0 : Int32) else (if q then some (0 : Int32) else (if r then some (0 : Int32) else some (1 : Int32)))) = some (bI (!decide p && (!decide q && !decide r))) := by
  by_cases h1 : p
  · rw [if_pos h1, decide_eq_true h1]; rfl
  · rw [if_neg h1, decide_eq_false h1]
    by_cases h2 : q
    · rw [if_pos h2, decide_eq_true h2]; rfl
    · rw [if_neg h2, decide_eq_false h2]
      by_cases h3 : r
      · rw [if_pos h3, decide_eq_true h3]; rfl
      · rw [if_neg h3, decide_eq_false h3]; rfl
def mG (a1 a2 a3 : Int32) (r : Int32) (v : St) : Option Int32 := (if a1 = 0 then some (1 : Int32) else (if a1 = (2 : Int32) then ((m_X4_isIn v ((r).toInt64) ((a2).toInt64) (((a3 - (1 : Int32))).toInt64)).bind fun v24 => (if v24 = 0 then (if a1 = (3 : Int32) then (if r < a3 then some (0 : Int32) else (if a2 = 0 then none else (if ((r - a3) - (r - a3) / a2 * a2) = 0 then some (1 : Int32) else some (0 : Int32)))) else some (0 : Int32)) else some (1 : Int32))) else (if a1 = (3 : Int32) then (if r < a3 then some (0 : Int32) else (if a2 = 0 then none else (if ((r - a3) - (r - a3) / a2 * a2) = 0 then some (1 : Int32) else some (0 : Int32)))) else some (0 : Int32))))
theorem mG0 (a2 a3 r : Int32) (v : St) : mG 0 a2 a3 r v = some 1 := rfl
theorem mG1 (a2 a3 r : Int32) (v : St) : mG 1 a2 a3 r v = some 0 := rfl
theorem mG2 {b e i : Nat} (v : St) (hb : b < 2 ^ 30) (he : e < 2 ^ 30) (hi : i < 192) : ∃ t, mG 2 (nI b) (nI e) (nI i) v = some t ∧ nz t = bI (decide (b ≤ i) && decide (i < e)) := by
  unfold mG
  rw [if_neg (by decide), if_pos rfl, isIn_eq, Option.bind_some, if_bI, t64, t64, t64, show (1 : Int32) = nI 1 from rfl, pk_sub_toInt he (by decide), nI_toInt (by omega), nI_toInt (by omega)]
  have : rg (i : Int) (b : Int) ((e : Int) - ((1 : Nat) : Int)) = (decide (b ≤ i) && decide (i < e)) := by
    unfold rg
    rw [Bool.eq_iff_iff, Bool.and_eq_true, Bool.and_eq_true, decide_eq_true_eq, decide_eq_true_eq, decide_eq_true_eq, decide_eq_true_eq]
    omega
  rw [this]
  cases (decide (b ≤ i) && decide (i < e))
  · exact ⟨0, rfl, rfl⟩
  · exact ⟨1, rfl, rfl⟩
theorem mG3 {b t i : Nat} (v : St) (hb : b < 2 ^ 31) (ht : t < 2 ^ 31) (h0 : 0 < t) (hi : i < 192) : ∃ y, mG 3 (nI t) (nI b) (nI i) v = some y ∧ nz y = bI (decide (b ≤ i) && decide ((i - b) % t = 0)) := by
  unfold mG
  rw [if_neg (by decide), if_neg (by decide), if_pos rfl]
  by_cases g : b ≤ i
  · rw [if_neg (fun z => absurd ((nI_ltI (by omega) hb).mp z) (by omega)), decide_eq_true g]
    have hne : ¬ nI t = 0 := fun z => by
      have := congrArg Int32.toInt z
      rw [nI_toInt ht] at this
      have h1 : (0 : Int32).toInt = 0 := rfl
      omega
    have hsub : nI i - nI b = nI (i - b) := by
      apply Int32.toInt_inj.mp
      rw [pk_sub_toInt (by omega) (by omega), nI_toInt (by omega)]
      omega
    rw [if_neg hne, hsub, pk_rem (by omega) h0 ht]
    have hm := Nat.mod_le (i - b) t
    by_cases g2 : (i - b) % t = 0
    · rw [g2, if_pos (show nI 0 = 0 from rfl)]
      exact ⟨1, rfl, rfl⟩
    · have hn2 : ¬ nI ((i - b) % t) = 0 := fun z => by
        have := congrArg Int32.toInt z
        rw [nI_toInt (by omega)] at this
        have h1 : (0 : Int32).toInt = 0 := rfl
        omega
      rw [if_neg hn2, decide_eq_false g2]
      exact ⟨0, rfl, rfl⟩
  · rw [if_pos ((nI_ltI (by omega) hb).mpr (by omega)), decide_eq_false g]
    exact ⟨0, rfl, rfl⟩
