/-! ===== the reference's limbs of 24 bits ===== -/
theorem and24 (t : Int64) : (t &&& (16777215 : Int64)).toInt = t.toInt % 16777216 := by
  obtain ⟨N, hN, rfl⟩ := wb_of t
  have e : lN N &&& (16777215 : Int64) = lN (N % 16777216) := wb_mask (k := 24) hN (by decide)
  rw [e, pk_lT (by omega), lN_ti31 hN]
  split <;> omega
theorem sar24 (t : Int64) : (t >>> (((24 : Int32)).toInt64 &&& 63)).toInt = t.toInt / 16777216 := sar_toInt (j := 24) (by decide) t
/-- the value of six limbs -/
def mV (u : St) : Int := (u.2 7 0).toInt + 16777216 * (u.2 7 1).toInt + 281474976710656 * (u.2 7 2).toInt + 4722366482869645213696 * (u.2 7 3).toInt + 79228162514264337593543950336 * (u.2 7 4).toInt + 1329227995784915872903807060280344576 * (u.2 7 5).toInt
def mB (u : St) (K L : Int) : Prop := (-K ≤ (u.2 7 0).toInt ∧ (u.2 7 0).toInt ≤ K) ∧ (-K ≤ (u.2 7 1).toInt ∧ (u.2 7 1).toInt ≤ K) ∧ (-K ≤ (u.2 7 2).toInt ∧ (u.2 7 2).toInt ≤ K) ∧ (-K ≤ (u.2 7 3).toInt ∧ (u.2 7 3).toInt ≤ K) ∧ (-K ≤ (u.2 7 4).toInt ∧ (u.2 7 4).toInt ≤ K) ∧ (-L ≤ (u.2 7 5).toInt ∧ (u.2 7 5).toInt ≤ L)
/-- one carry: limb k is cut, the next one grows -/
abbrev cS (u : St) (k : Nat) : St := sL (sL u 7 (k + 1) (u.2 7 (k + 1) + (u.2 7 k >>> (((24 : Int32)).toInt64 &&& 63)))) 7 k (u.2 7 k &&& (16777215 : Int64))
def cSn (u : St) : Nat → St
  | 0 => u
  | k + 1 => cS (cSn u k) k
theorem carries_eq (u : St) : m_X4_carries u = some (cS (cS (cS (cS (cS u 0) 1) 2) 3) 4) := by
  unfold m_X4_carries
  rw [lp_g (fun i => (nI i, cSn u i)) 5 (cSn u 5) ?_ ?_ ?_ ?_]
  · rfl
  · rfl
  · decide
  · intro k hk
    simp only [if_neg (show ¬ (5 : Int32) ≤ nI k from nI_ge (b := 5) hk (by decide)), nI_s, ix6 (show k < 6 by omega), ix6 (show k + 1 < 6 by omega), Option.bind_some]
    rw [sLn (Or.inr (by omega))]
    rfl
  · exact if_pos (show (5 : Int32) ≤ nI 5 by decide)
theorem cS_at {u : St} {k : Nat} (h1 : -4611686018427387904 ≤ (u.2 7 (k + 1)).toInt ∧ (u.2 7 (k + 1)).toInt ≤ 4611686018427387904) : ((cS u k).2 7 k).toInt = (u.2 7 k).toInt % 16777216 ∧ ((cS u k).2 7 (k + 1)).toInt = (u.2 7 (k + 1)).toInt + (u.2 7 k).toInt / 16777216 ∧ ∀ j, j ≠ k → j ≠ k + 1 → (cS u k).2 7 j = u.2 7 j := by
  refine ⟨by rw [show (cS u k).2 7 k = u.2 7 k &&& (16777215 : Int64) from sLs]; exact and24 _, ?_, fun j a b => by rw [sLn (Or.inr a), sLn (Or.inr b)]⟩
  rw [show (cS u k).2 7 (k + 1) = u.2 7 (k + 1) + (u.2 7 k >>> (((24 : Int32)).toInt64 &&& 63)) from by rw [sLn (Or.inr (by omega)), sLs]]
  have e := sar24 (u.2 7 k)
  have hr := fb_rngL (u.2 7 k)
  rw [fb_addL (by rw [e]; omega) (by rw [e]; omega), e]
/-- all carried: the value stays, all limbs but the last are cut -/
theorem carries_wp {u : St} {K L : Int} (h : mB u K L) (hK : K ≤ 2305843009213693952) (hL : L ≤ 2305843009213693952) : wp (m_X4_carries u) (fun v => Oc 7 u v ∧ mV v = mV u ∧ (0 ≤ (v.2 7 0).toInt ∧ (v.2 7 0).toInt < 16777216) ∧ (0 ≤ (v.2 7 1).toInt ∧ (v.2 7 1).toInt < 16777216) ∧ (0 ≤ (v.2 7 2).toInt ∧ (v.2 7 2).toInt < 16777216) ∧ (0 ≤ (v.2 7 3).toInt ∧ (v.2 7 3).toInt < 16777216) ∧ (0 ≤ (v.2 7 4).toInt ∧ (v.2 7 4).toInt < 16777216) ∧ -(L + 274877906944) ≤ (v.2 7 5).toInt ∧ (v.2 7 5).toInt ≤ L + 274877906944) := by
  obtain ⟨b0, b1, b2, b3, b4, b5⟩ := h
  have t0 := cS_at (u := u) (k := 0) (by show -4611686018427387904 ≤ (u.2 7 1).toInt ∧ (u.2 7 1).toInt ≤ 4611686018427387904; omega)
  generalize hu1 : cS u 0 = u1 at t0
  obtain ⟨p00, p01, p0⟩ := t0
  simp only [Nat.reduceAdd] at p01
  have q2 := p0 2 (by decide) (by decide)
  have q3 := p0 3 (by decide) (by decide)
  have q4 := p0 4 (by decide) (by decide)
  have q5 := p0 5 (by decide) (by decide)
  clear p0
  have t1 := cS_at (u := u1) (k := 1) (by show -4611686018427387904 ≤ (u1.2 7 2).toInt ∧ (u1.2 7 2).toInt ≤ 4611686018427387904; rw [q2]; omega)
  generalize hu2 : cS u1 1 = u2 at t1
  obtain ⟨p10, p11, p1⟩ := t1
  simp only [Nat.reduceAdd] at p11
  have r0 := p1 0 (by decide) (by decide)
  have r3 := p1 3 (by decide) (by decide)
  have r4 := p1 4 (by decide) (by decide)
  have r5 := p1 5 (by decide) (by decide)
  clear p1
  have t2 := cS_at (u := u2) (k := 2) (by show -4611686018427387904 ≤ (u2.2 7 3).toInt ∧ (u2.2 7 3).toInt ≤ 4611686018427387904; rw [r3, q3]; omega)
  generalize hu3 : cS u2 2 = u3 at t2
  obtain ⟨p20, p21, p2⟩ := t2
  simp only [Nat.reduceAdd] at p21
  have w0 := p2 0 (by decide) (by decide)
  have w1 := p2 1 (by decide) (by decide)
  have w4 := p2 4 (by decide) (by decide)
  have w5 := p2 5 (by decide) (by decide)
  clear p2
  have t3 := cS_at (u := u3) (k := 3) (by show -4611686018427387904 ≤ (u3.2 7 4).toInt ∧ (u3.2 7 4).toInt ≤ 4611686018427387904; rw [w4, r4, q4]; omega)
  generalize hu4 : cS u3 3 = u4 at t3
  obtain ⟨p30, p31, p3⟩ := t3
  simp only [Nat.reduceAdd] at p31
  have x0 := p3 0 (by decide) (by decide)
  have x1 := p3 1 (by decide) (by decide)
  have x2 := p3 2 (by decide) (by decide)
  have x5 := p3 5 (by decide) (by decide)
  clear p3
  have t4 := cS_at (u := u4) (k := 4) (by show -4611686018427387904 ≤ (u4.2 7 5).toInt ∧ (u4.2 7 5).toInt ≤ 4611686018427387904; rw [x5, w5, r5, q5]; omega)
  generalize hu5 : cS u4 4 = u5 at t4
  obtain ⟨p40, p41, p4⟩ := t4
  simp only [Nat.reduceAdd] at p41
  have y0 := p4 0 (by decide) (by decide)
  have y1 := p4 1 (by decide) (by decide)
  have y2 := p4 2 (by decide) (by decide)
  have y3 := p4 3 (by decide) (by decide)
  clear p4
  refine wp_eq (by rw [carries_eq, hu1, hu2, hu3, hu4, hu5]) ⟨?_, ?_⟩
  · rw [← hu5, ← hu4, ← hu3, ← hu2, ← hu1]
    exact ((((((((((Oc.rf).sL).sL).sL).sL).sL).sL).sL).sL).sL).sL
  · rw [y0, x0, w0, r0]
    rw [y1, x1, w1]
    rw [y2, x2]
    rw [y3]
    rw [x5, w5, r5, q5] at p41
    rw [w4, r4, q4] at p31
    rw [r3, q3] at p21
    rw [q2] at p11
    unfold mV
    rw [y0, x0, w0, r0, y1, x1, w1, y2, x2, y3]
    generalize (u.2 7 0).toInt = a0 at *
    generalize (u.2 7 1).toInt = a1 at *
    generalize (u.2 7 2).toInt = a2 at *
    generalize (u.2 7 3).toInt = a3 at *
    generalize (u.2 7 4).toInt = a4 at *
    generalize (u.2 7 5).toInt = a5 at *
    generalize (u1.2 7 0).toInt = d0 at *
    generalize (u1.2 7 1).toInt = d1 at *
    generalize (u2.2 7 1).toInt = e1 at *
    generalize (u2.2 7 2).toInt = e2 at *
    generalize (u3.2 7 2).toInt = f2 at *
    generalize (u3.2 7 3).toInt = f3 at *
    generalize (u4.2 7 3).toInt = g3 at *
    generalize (u4.2 7 4).toInt = g4 at *
    generalize (u5.2 7 4).toInt = h4 at *
    generalize (u5.2 7 5).toInt = h5 at *
    clear hu1 hu2 hu3 hu4 hu5 q2 q3 q4 q5 r0 r3 r4 r5 w0 w1 w4 w5 x0 x1 x2 x5 y0 y1 y2 y3
    refine ⟨?_, by omega, by omega, by omega, by omega, by omega, by omega, by omega⟩
    have s0 : a0 = d0 + 16777216 * (a0 / 16777216) := by omega
    have s1 : d1 = e1 + 16777216 * (d1 / 16777216) := by omega
    have s2 : e2 = f2 + 16777216 * (e2 / 16777216) := by omega
    have s3 : f3 = g3 + 16777216 * (f3 / 16777216) := by omega
    have s4 : g4 = h4 + 16777216 * (g4 / 16777216) := by omega
    clear b0 b1 b2 b3 b4 b5 p00 p10 p20 p30 p40 hK hL
    generalize a0 / 16777216 = k0 at *
    generalize d1 / 16777216 = k1 at *
    generalize e2 / 16777216 = k2 at *
    generalize f3 / 16777216 = k3 at *
    generalize g4 / 16777216 = k4 at *
    omega
