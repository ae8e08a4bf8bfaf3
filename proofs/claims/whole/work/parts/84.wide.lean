/-! ===== wide numbers: the class's limbs of 31 bits ===== -/
theorem lp_in {S R : Type} {f : S → Option (S ⊕ R)} {s s' : S} {r : R} {n : Nat} (h : f s = some (.inl s')) (hk : lp n f s' = some r) : lp (n + 1) f s = some r := by
  unfold lp
  rw [h]
  exact hk
theorem lp_out {S R : Type} {f : S → Option (S ⊕ R)} {s : S} {r : R} {n : Nat} (h : f s = some (.inr r)) : lp (n + 1) f s = some r := by
  unfold lp
  rw [h]
theorem lN_ti31 {m : Nat} (h : m < 2 ^ 64) : (lN m).toInt = if m < 9223372036854775808 then (m : Int) else (m : Int) - 18446744073709551616 := by
  have h1 := uN_int (lN m)
  have h2 : uN (lN m) = m := by
    show (lN m).toBitVec.toNat = m
    exact wb_tn h
  rw [h2] at h1
  rw [h1]
  split <;> split <;> omega
theorem and31 (t : Int64) : (t &&& (2147483647 : Int64)).toInt = t.toInt % 2147483648 := by
  obtain ⟨N, hN, rfl⟩ := wb_of t
  have e : lN N &&& (2147483647 : Int64) = lN (N % 2147483648) := wb_mask (k := 31) hN (by decide)
  rw [e, pk_lT (by omega), lN_ti31 hN]
  split <;> omega
theorem sar31 (t : Int64) : (t >>> (((31 : Int32)).toInt64 &&& 63)).toInt = t.toInt / 2147483648 := sar_toInt (j := 31) (by decide) t
theorem limb_step {l cr : Int64} (h1 : 0 ≤ l.toInt) (h2 : l.toInt < 2147483648) (h3 : -9223372032559808512 ≤ cr.toInt) (h4 : cr.toInt ≤ 9223372032559808512) : l.toInt + cr.toInt = ((l + cr) &&& (2147483647 : Int64)).toInt + 2147483648 * ((l + cr) >>> (((31 : Int32)).toInt64 &&& 63)).toInt ∧ 0 ≤ ((l + cr) &&& (2147483647 : Int64)).toInt ∧ ((l + cr) &&& (2147483647 : Int64)).toInt < 2147483648 ∧ -4294967296 ≤ ((l + cr) >>> (((31 : Int32)).toInt64 &&& 63)).toInt ∧ ((l + cr) >>> (((31 : Int32)).toInt64 &&& 63)).toInt ≤ 4294967296 := by
  have e : (l + cr).toInt = l.toInt + cr.toInt := fb_addL (by omega) (by omega)
  rw [and31, sar31, e]
  generalize l.toInt = a at *
  generalize cr.toInt = b at *
  omega
def Wd (σ : St) (z : Int) (B : Nat) : Prop := (0 ≤ (σ.2 25 0).toInt ∧ (σ.2 25 0).toInt < 2147483648) ∧ (0 ≤ (σ.2 25 1).toInt ∧ (σ.2 25 1).toInt < 2147483648) ∧ (0 ≤ (σ.2 25 2).toInt ∧ (σ.2 25 2).toInt < 2147483648) ∧ (-(8589934592 * (B : Int)) ≤ (σ.2 25 3).toInt ∧ (σ.2 25 3).toInt ≤ 8589934592 * (B : Int)) ∧ z = (σ.2 25 0).toInt + 2147483648 * (σ.2 25 1).toInt + 4611686018427387904 * (σ.2 25 2).toInt + 9903520314283042199192993792 * (σ.2 25 3).toInt
def pw31 : Nat → Int
  | 0 => 1
  | 1 => 2147483648
  | _ => 4611686018427387904
abbrev nS (σ : St) (i : Nat) (cr : Int64) : St := sL σ 25 i ((σ.2 25 i + cr) &&& (2147483647 : Int64))
abbrev nC (σ : St) (i : Nat) (cr : Int64) : Int64 := (σ.2 25 i + cr) >>> (((31 : Int32)).toInt64 &&& 63)
theorem incl2_eq (σ : St) (v : Int64) : c_X2_includeAt σ 2 v = some (sL (nS σ 2 v) 25 3 ((nS σ 2 v).2 25 3 + nC σ 2 v)) := by
  unfold c_X2_includeAt
  rw [lp_in (s' := (nC σ 2 v, (3 : Int32), nS σ 2 v)) (r := (nC σ 2 v, nS σ 2 v)) (by rfl) (lp_out (by rfl))]
  rfl
theorem incl1_eq (σ : St) (v : Int64) : c_X2_includeAt σ 1 v = some (sL (nS (nS σ 1 v) 2 (nC σ 1 v)) 25 3 ((nS (nS σ 1 v) 2 (nC σ 1 v)).2 25 3 + nC (nS σ 1 v) 2 (nC σ 1 v))) := by
  unfold c_X2_includeAt
  rw [lp_in (s' := (nC σ 1 v, (2 : Int32), nS σ 1 v)) (r := (nC (nS σ 1 v) 2 (nC σ 1 v), nS (nS σ 1 v) 2 (nC σ 1 v))) (by rfl) (lp_in (s' := (nC (nS σ 1 v) 2 (nC σ 1 v), (3 : Int32), nS (nS σ 1 v) 2 (nC σ 1 v))) (by rfl) (lp_out (by rfl)))]
  rfl
theorem incl0_eq (σ : St) (v : Int64) : c_X2_includeAt σ 0 v = some (sL (nS (nS (nS σ 0 v) 1 (nC σ 0 v)) 2 (nC (nS σ 0 v) 1 (nC σ 0 v))) 25 3 ((nS (nS (nS σ 0 v) 1 (nC σ 0 v)) 2 (nC (nS σ 0 v) 1 (nC σ 0 v))).2 25 3 + nC (nS (nS σ 0 v) 1 (nC σ 0 v)) 2 (nC (nS σ 0 v) 1 (nC σ 0 v)))) := by
  unfold c_X2_includeAt
  rw [lp_in (s' := (nC σ 0 v, (1 : Int32), nS σ 0 v)) (r := (nC (nS (nS σ 0 v) 1 (nC σ 0 v)) 2 (nC (nS σ 0 v) 1 (nC σ 0 v)), nS (nS (nS σ 0 v) 1 (nC σ 0 v)) 2 (nC (nS σ 0 v) 1 (nC σ 0 v)))) (by rfl) (lp_in (s' := (nC (nS σ 0 v) 1 (nC σ 0 v), (2 : Int32), nS (nS σ 0 v) 1 (nC σ 0 v))) (by rfl) (lp_in (s' := (nC (nS (nS σ 0 v) 1 (nC σ 0 v)) 2 (nC (nS σ 0 v) 1 (nC σ 0 v)), (3 : Int32), nS (nS (nS σ 0 v) 1 (nC σ 0 v)) 2 (nC (nS σ 0 v) 1 (nC σ 0 v)))) (by rfl) (lp_out (by rfl))))]
  rfl
/-- one limb's step, as numbers -/
def LmS (l cr m c : Int) : Prop := l + cr = m + 2147483648 * c ∧ 0 ≤ m ∧ m < 2147483648 ∧ -4294967296 ≤ c ∧ c ≤ 4294967296
theorem nS_LmS {σ : St} {i : Nat} {cr : Int64} (h1 : 0 ≤ (σ.2 25 i).toInt ∧ (σ.2 25 i).toInt < 2147483648) (h3 : -9223372032559808512 ≤ cr.toInt ∧ cr.toInt ≤ 9223372032559808512) : LmS (σ.2 25 i).toInt cr.toInt ((nS σ i cr).2 25 i).toInt (nC σ i cr).toInt := by
  have := limb_step h1.1 h1.2 h3.1 h3.2
  rw [show (nS σ i cr).2 25 i = (σ.2 25 i + cr) &&& (2147483647 : Int64) from sLs]
  exact this
theorem nS_ne {σ : St} {i j : Nat} {cr : Int64} (h : j ≠ i) : (nS σ i cr).2 25 j = σ.2 25 j := sLn (Or.inr h)
theorem l3_add {a b : Int64} {B : Nat} (hB : B ≤ 4000) (h1 : -(8589934592 * (B : Int)) ≤ a.toInt ∧ a.toInt ≤ 8589934592 * (B : Int)) (h2 : -4294967296 ≤ b.toInt ∧ b.toInt ≤ 4294967296) : (a + b).toInt = a.toInt + b.toInt := fb_addL (by omega) (by omega)
theorem wd_fin {z v l0 l1 l2 l3 m0 m1 m2 c0 c1 c2 : Int} (hz : z = l0 + 2147483648 * l1 + 4611686018427387904 * l2 + 9903520314283042199192993792 * l3) (s0 : LmS l0 v m0 c0) (s1 : LmS l1 c0 m1 c1) (s2 : LmS l2 c1 m2 c2) : z + v = m0 + 2147483648 * m1 + 4611686018427387904 * m2 + 9903520314283042199192993792 * (l3 + c2) := by
  have h0 := s0.1
  have h1 := s1.1
  have h2 := s2.1
  omega
theorem incl0_wp {σ : St} {z : Int} {B : Nat} {v : Int64} (h : Wd σ z B) (hB : B ≤ 4000) (hv : -9223372032559808512 ≤ v.toInt ∧ v.toInt ≤ 9223372032559808512) : wp (c_X2_includeAt σ 0 v) (fun τ => Oc 25 σ τ ∧ Wd τ (z + v.toInt) (B + 1)) := by
  obtain ⟨b0, b1, b2, b3, hz⟩ := h
  have s0 := nS_LmS (i := 0) b0 hv
  have s1 := nS_LmS (σ := nS σ 0 v) (i := 1) (cr := nC σ 0 v) (by rw [nS_ne (by decide)]; exact b1) ⟨by have := s0.2.2.2; omega, by have := s0.2.2.2; omega⟩
  have s2 := nS_LmS (σ := nS (nS σ 0 v) 1 (nC σ 0 v)) (i := 2) (cr := nC (nS σ 0 v) 1 (nC σ 0 v)) (by rw [nS_ne (by decide), nS_ne (by decide)]; exact b2) ⟨by have := s1.2.2.2; omega, by have := s1.2.2.2; omega⟩
  rw [nS_ne (by decide)] at s1
  rw [nS_ne (show 2 ≠ 1 by decide), nS_ne (show 2 ≠ 0 by decide)] at s2
  refine wp_eq (incl0_eq σ v) ⟨((Oc.rf.sL).sL).sL.sL, ?_⟩
  generalize hσ1 : nS σ 0 v = σ1 at *
  generalize hc0 : nC σ 0 v = cc0 at *
  generalize hσ2 : nS σ1 1 cc0 = σ2 at *
  generalize hc1 : nC σ1 1 cc0 = cc1 at *
  generalize hσ3 : nS σ2 2 cc1 = σ3 at *
  generalize hc2 : nC σ2 2 cc1 = cc2 at *
  have e3 : σ3.2 25 3 = σ.2 25 3 := by rw [← hσ3, nS_ne (by decide), ← hσ2, nS_ne (by decide), ← hσ1, nS_ne (by decide)]
  have e0 : σ3.2 25 0 = σ1.2 25 0 := by rw [← hσ3, nS_ne (by decide), ← hσ2, nS_ne (by decide)]
  have e1 : σ3.2 25 1 = σ2.2 25 1 := by rw [← hσ3, nS_ne (by decide)]
  have ha := l3_add hB b3 ⟨s2.2.2.2.1, s2.2.2.2.2⟩
  unfold Wd
  rw [sLn (by omega), sLn (by omega), sLn (by omega), sLs, e3, e0, e1, ha]
  refine ⟨⟨s0.2.1, s0.2.2.1⟩, ⟨s1.2.1, s1.2.2.1⟩, ⟨s2.2.1, s2.2.2.1⟩, ?_, wd_fin hz s0 s1 s2⟩
  have := s2.2.2.2
  rw [show ((B + 1 : Nat) : Int) = (B : Int) + 1 from rfl]
  omega
theorem incl1_wp {σ : St} {z : Int} {B : Nat} {v : Int64} (h : Wd σ z B) (hB : B ≤ 4000) (hv : -9223372032559808512 ≤ v.toInt ∧ v.toInt ≤ 9223372032559808512) : wp (c_X2_includeAt σ 1 v) (fun τ => Oc 25 σ τ ∧ Wd τ (z + 2147483648 * v.toInt) (B + 1)) := by
  obtain ⟨b0, b1, b2, b3, hz⟩ := h
  have s1 := nS_LmS (i := 1) b1 hv
  have s2 := nS_LmS (σ := nS σ 1 v) (i := 2) (cr := nC σ 1 v) (by rw [nS_ne (by decide)]; exact b2) ⟨by have := s1.2.2.2; omega, by have := s1.2.2.2; omega⟩
  rw [nS_ne (show 2 ≠ 1 by decide)] at s2
  refine wp_eq (incl1_eq σ v) ⟨((Oc.rf.sL).sL).sL, ?_⟩
  generalize hσ2 : nS σ 1 v = σ2 at *
  generalize hc1 : nC σ 1 v = cc1 at *
  generalize hσ3 : nS σ2 2 cc1 = σ3 at *
  generalize hc2 : nC σ2 2 cc1 = cc2 at *
  have e3 : σ3.2 25 3 = σ.2 25 3 := by rw [← hσ3, nS_ne (by decide), ← hσ2, nS_ne (by decide)]
  have e0 : σ3.2 25 0 = σ.2 25 0 := by rw [← hσ3, nS_ne (by decide), ← hσ2, nS_ne (by decide)]
  have e1 : σ3.2 25 1 = σ2.2 25 1 := by rw [← hσ3, nS_ne (by decide)]
  have ha := l3_add hB b3 ⟨s2.2.2.2.1, s2.2.2.2.2⟩
  unfold Wd
  rw [sLn (by omega), sLn (by omega), sLn (by omega), sLs, e3, e0, e1, ha]
  refine ⟨b0, ⟨s1.2.1, s1.2.2.1⟩, ⟨s2.2.1, s2.2.2.1⟩, ?_, ?_⟩
  · have := s2.2.2.2
    rw [show ((B + 1 : Nat) : Int) = (B : Int) + 1 from rfl]
    omega
  · have h1 := s1.1
    have h2 := s2.1
    rw [hz]
    omega
theorem incl2_wp {σ : St} {z : Int} {B : Nat} {v : Int64} (h : Wd σ z B) (hB : B ≤ 4000) (hv : -9223372032559808512 ≤ v.toInt ∧ v.toInt ≤ 9223372032559808512) : wp (c_X2_includeAt σ 2 v) (fun τ => Oc 25 σ τ ∧ Wd τ (z + 4611686018427387904 * v.toInt) (B + 1)) := by
  obtain ⟨b0, b1, b2, b3, hz⟩ := h
  have s2 := nS_LmS (i := 2) b2 hv
  refine wp_eq (incl2_eq σ v) ⟨(Oc.rf.sL).sL, ?_⟩
  generalize hσ3 : nS σ 2 v = σ3 at *
  generalize hc2 : nC σ 2 v = cc2 at *
  have e3 : σ3.2 25 3 = σ.2 25 3 := by rw [← hσ3, nS_ne (by decide)]
  have e0 : σ3.2 25 0 = σ.2 25 0 := by rw [← hσ3, nS_ne (by decide)]
  have e1 : σ3.2 25 1 = σ.2 25 1 := by rw [← hσ3, nS_ne (by decide)]
  have ha := l3_add hB b3 ⟨s2.2.2.2.1, s2.2.2.2.2⟩
  unfold Wd
  rw [sLn (by omega), sLn (by omega), sLn (by omega), sLs, e3, e0, e1, ha]
  refine ⟨b0, b1, ⟨s2.2.1, s2.2.2.1⟩, ?_, ?_⟩
  · have := s2.2.2.2
    rw [show ((B + 1 : Nat) : Int) = (B : Int) + 1 from rfl]
    omega
  · have h2 := s2.1
    rw [hz]
    omega
/-- a long comes to it -/
theorem wInc_wp {σ : St} {z : Int} {B : Nat} {v : Int64} (h : Wd σ z B) (hB : B ≤ 3990) : wp (c_X2_include σ v) (fun τ => Oc 25 σ τ ∧ Wd τ (z + v.toInt) (B + 2)) := by
  unfold c_X2_include
  have hv := fb_rngL v
  have e1 := and31 v
  have e2 := sar31 v
  refine wp_bm (incl0_wp h (by omega) (by rw [e1]; omega)) (fun τ h1 => ?_)
  refine wp_bm (incl1_wp h1.2 (by omega) (by rw [e2]; omega)) (fun τ2 h2 => wp_some ⟨h1.1.tr h2.1, ?_⟩)
  have h3 := h2.2
  rw [e1, e2, show z + v.toInt % 2147483648 + 2147483648 * (v.toInt / 2147483648) = z + v.toInt by omega] at h3
  exact h3
theorem wRestart_eq (σ : St) : c_X2_restart σ = some (fL σ 25 0 (fun _ => 0) 4) := by
  unfold c_X2_restart
  rw [lp_g (fun i => (nI i, fL σ 25 0 (fun _ => 0) i)) 4 (fL σ 25 0 (fun _ => 0) 4) ?_ ?_ ?_ ?_]
  · rfl
  · rw [fL_0]; rfl
  · decide
  · intro i hi
    simp only [if_neg (show ¬ (3 : Int32) < nI i from fun q => absurd ((nI_ltI (a := 3) (by decide) (by omega)).mp q) (by omega)), ix4 hi, Option.bind_some, nI_s]
    rw [fL_s0 σ 25 (fun _ => 0) i]
  · exact if_pos (show (3 : Int32) < nI 4 by decide)
theorem Wd_0 (σ : St) : Wd (fL σ 25 0 (fun _ => 0) 4) 0 0 := by
  unfold Wd
  rw [fL_in0 (by decide), fL_in0 (by decide), fL_in0 (by decide), fL_in0 (by decide), L_0]
  decide
