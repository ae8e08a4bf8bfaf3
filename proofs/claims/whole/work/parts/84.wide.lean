/-! ===== wide numbers: the class's limbs of 31 bits ===== -/
theorem lp_in {S R : Type} {f : S → Option (S ⊕ R)} {s s' : S} {r : R} {n : Nat} (h : f s = some (.inl s')) (hk : lp n f s' = some r) : lp (n + 1) f s = some r := by
  unfold lp
  rw [h]
  exact hk
theorem lp_out {S R : Type} {f : S → Option (S ⊕ R)} {s : S} {r : R} {n : Nat} (h : f s = some (.inr r)) : lp (n + 1) f s = some r := by
  unfold lp
  rw [h]
theorem lN_ti31 {m : Nat} (h : m < 2 ^ 64) : (lN m).toInt = if m < 9223372036854775808 then (m : Int) else (m : Int) - 18446744073709551616 := by
  have h1 := uN_int (lN m)
  have h2 : uN (lN m) = m := by
    show (lN m).toBitVec.toNat = m
    exact wb_tn h
  rw [h2] at h1
  rw [h1]
  split <;> split <;> omega
theorem and31 (t : Int64) : (t &&& (2147483647 : Int64)).toInt = t.toInt % 2147483648 := by
  obtain ⟨N, hN, rfl⟩ := wb_of t
  have e : lN N &&& (2147483647 : Int64) = lN (N % 2147483648) := wb_mask (k := 31) hN (by decide)
  rw [e, pk_lT (by omega), lN_ti31 hN]
  split <;> omega
theorem sar31 (t : Int64) : (t >>> (((31 : Int32)).toInt64 &&& 63)).toInt = t.toInt / 2147483648 := sar_toInt (j := 31) (by decide) t
theorem limb_step {l cr : Int64} (h1 : 0 ≤ l.toInt) (h2 : l.toInt < 2147483648) (h3 : -9223372032559808512 ≤ cr.toInt) (h4 : cr.toInt ≤ 9223372032559808512) : l.toInt + cr.toInt = ((l + cr) &&& (2147483647 : Int64)).toInt + 2147483648 * ((l + cr) >>> (((31 : Int32)).toInt64 &&& 63)).toInt ∧ 0 ≤ ((l + cr) &&& (2147483647 : Int64)).toInt ∧ ((l + cr) &&& (2147483647 : Int64)).toInt < 2147483648 ∧ -4294967296 ≤ ((l + cr) >>> (((31 : Int32)).toInt64 &&& 63)).toInt ∧ ((l + cr) >>> (((31 : Int32)).toInt64 &&& 63)).toInt ≤ 4294967296 := by
  have e : (l + cr).toInt = l.toInt + cr.toInt := fb_addL (by omega) (by omega)
  rw [and31, sar31, e]
  generalize l.toInt = a at *
  generalize cr.toInt = b at *
  omega
def Wd (σ : St) (z : Int) (B : Nat) : Prop := (0 ≤ (σ.2 25 0).toInt ∧ (σ.2 25 0).toInt < 2147483648) ∧ (0 ≤ (σ.2 25 1).toInt ∧ (σ.2 25 1).toInt < 2147483648) ∧ (0 ≤ (σ.2 25 2).toInt ∧ (σ.2 25 2).toInt < 2147483648) ∧ (-(8589934592 * (B : Int)) ≤ (σ.2 25 3).toInt ∧ (σ.2 25 3).toInt ≤ 8589934592 * (B : Int)) ∧ z = (σ.2 25 0).toInt + 2147483648 * (σ.2 25 1).toInt + 4611686018427387904 * (σ.2 25 2).toInt + 9903520314283042199192993792 * (σ.2 25 3).toInt
def pw31 : Nat → Int
  | 0 => 1
  | 1 => 2147483648
  | _ => 4611686018427387904
abbrev nS (σ : St) (i : Nat) (cr : Int64) : St := sL σ 25 i ((σ.2 25 i + cr) &&& (2147483647 : Int64))
abbrev nC (σ : St) (i : Nat) (cr : Int64) : Int64 := (σ.2 25 i + cr) >>> (((31 : Int32)).toInt64 &&& 63)
theorem incl2_eq (σ : St) (v : Int64) : c_X2_includeAt σ 2 v = some (sL (nS σ 2 v) 25 3 ((nS σ 2 v).2 25 3 + nC σ 2 v)) := by
  unfold c_X2_includeAt
  rw [lp_in (s' := (nC σ 2 v, (3 : Int32), nS σ 2 v)) (r := (nC σ 2 v, nS σ 2 v)) (by rfl) (lp_out (by rfl))]
  rfl
theorem incl1_eq (σ : St) (v : Int64) : c_X2_includeAt σ 1 v = some (sL (nS (nS σ 1 v) 2 (nC σ 1 v)) 25 3 ((nS (nS σ 1 v) 2 (nC σ 1 v)).2 25 3 + nC (nS σ 1 v) 2 (nC σ 1 v))) := by
  unfold c_X2_includeAt
  rw [lp_in (s' := (nC σ 1 v, (2 : Int32), nS σ 1 v)) (r := (nC (nS σ 1 v) 2 (nC σ 1 v), nS (nS σ 1 v) 2 (nC σ 1 v))) (by rfl) (lp_in (s' := (nC (nS σ 1 v) 2 (nC σ 1 v), (3 : Int32), nS (nS σ 1 v) 2 (nC σ 1 v))) (by rfl) (lp_out (by rfl)))]
  rfl
