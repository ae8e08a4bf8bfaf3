/-! ===== the reference's sums ===== -/
def pw24 : Nat → Int
  | 0 => 1
  | 1 => 16777216
  | 2 => 281474976710656
  | 3 => 4722366482869645213696
  | _ => 79228162514264337593543950336
theorem addl {v : St} {K L E : Int} {k : Nat} {e : Int64} (hB : mB v K L) (hk : k < 5) (he : -E ≤ e.toInt ∧ e.toInt ≤ E) (hK : K + E ≤ 4611686018427387904) : mB (sL v 7 k (v.2 7 k + e)) (K + E) L ∧ mV (sL v 7 k (v.2 7 k + e)) = mV v + pw24 k * e.toInt := by
  obtain ⟨b0, b1, b2, b3, b4, b5⟩ := hB
  have ad : ∀ a : Int64, -K ≤ a.toInt ∧ a.toInt ≤ K → (a + e).toInt = a.toInt + e.toInt := fun a ha => fb_addL (by omega) (by omega)
  unfold mB mV
  match k, hk with
  | 0, _ =>
    rw [sLs, sLn (Or.inr (by decide)), sLn (Or.inr (by decide)), sLn (Or.inr (by decide)), sLn (Or.inr (by decide)), sLn (Or.inr (by decide)), ad _ b0]
    refine ⟨⟨by omega, by omega, by omega, by omega, by omega, b5⟩, ?_⟩
    show _ = _ + 1 * e.toInt
    omega
  | 1, _ =>
    rw [sLs, sLn (Or.inr (by decide)), sLn (Or.inr (by decide)), sLn (Or.inr (by decide)), sLn (Or.inr (by decide)), sLn (Or.inr (by decide)), ad _ b1]
    refine ⟨⟨by omega, by omega, by omega, by omega, by omega, b5⟩, ?_⟩
    show _ = _ + 16777216 * e.toInt
    omega
  | 2, _ =>
    rw [sLs, sLn (Or.inr (by decide)), sLn (Or.inr (by decide)), sLn (Or.inr (by decide)), sLn (Or.inr (by decide)), sLn (Or.inr (by decide)), ad _ b2]
    refine ⟨⟨by omega, by omega, by omega, by omega, by omega, b5⟩, ?_⟩
    show _ = _ + 281474976710656 * e.toInt
    omega
  | 3, _ =>
    rw [sLs, sLn (Or.inr (by decide)), sLn (Or.inr (by decide)), sLn (Or.inr (by decide)), sLn (Or.inr (by decide)), sLn (Or.inr (by decide)), ad _ b3]
    refine ⟨⟨by omega, by omega, by omega, by omega, by omega, b5⟩, ?_⟩
    show _ = _ + 4722366482869645213696 * e.toInt
    omega
  | 4, _ =>
    rw [sLs, sLn (Or.inr (by decide)), sLn (Or.inr (by decide)), sLn (Or.inr (by decide)), sLn (Or.inr (by decide)), sLn (Or.inr (by decide)), ad _ b4]
    refine ⟨⟨by omega, by omega, by omega, by omega, by omega, b5⟩, ?_⟩
    show _ = _ + 79228162514264337593543950336 * e.toInt
    omega
/-- a part of an amount -/
def ptI (x : Int) : Nat → Int
  | 0 => x % 16777216
  | 1 => x / 16777216 % 16777216
  | _ => x / 281474976710656 % 16777216
theorem ptI_in (x : Int) (i : Nat) : 0 ≤ ptI x i ∧ ptI x i < 16777216 := by
  unfold ptI
  split <;> omega
theorem part_wp (u : St) (x : Int64) {i : Nat} (hi : i < 3) : wp (m_X4_part u x (nI i)) (fun y => y.toInt = ptI x.toInt i) := by
  unfold m_X4_part
  refine wp_some ?_
  rw [and24]
  match i, hi with
  | 0, _ =>
    rw [show ((24 : Int32) * nI 0).toInt64 &&& 63 = (nI 0).toInt64 &&& 63 from by decide, sar_toInt (by decide)]
    show x.toInt / 1 % 16777216 = x.toInt % 16777216
    omega
  | 1, _ =>
    rw [show ((24 : Int32) * nI 1).toInt64 &&& 63 = (nI 24).toInt64 &&& 63 from by decide, sar_toInt (by decide)]
    rfl
  | 2, _ =>
    rw [show ((24 : Int32) * nI 2).toInt64 &&& 63 = (nI 48).toInt64 &&& 63 from by decide, sar_toInt (by decide)]
    rfl
theorem parts_sum {x : Int} (h0 : 0 ≤ x) (h1 : x < 9223372036854775808) : x = ptI x 0 + 16777216 * ptI x 1 + 281474976710656 * ptI x 2 := by
  show x = x % 16777216 + 16777216 * (x / 16777216 % 16777216) + 281474976710656 * (x / 281474976710656 % 16777216)
  omega
theorem ring9 (s x y p0 p1 p2 q0 q1 q2 : Int) (hx : x = p0 + 16777216 * p1 + 281474976710656 * p2) (hy : y = q0 + 16777216 * q1 + 281474976710656 * q2) : (((0 + 1 * (s * p0 * q0)) + 16777216 * (s * p0 * q1)) + 281474976710656 * (s * p0 * q2)) + (((0 + 16777216 * (s * p1 * q0)) + 281474976710656 * (s * p1 * q1)) + 4722366482869645213696 * (s * p1 * q2)) + (((0 + 281474976710656 * (s * p2 * q0)) + 4722366482869645213696 * (s * p2 * q1)) + 79228162514264337593543950336 * (s * p2 * q2)) = s * x * y := by
  subst hx hy
  grind
def sgn (a b : Int64) : Int := if ((0 : Int64) ≤ a) = ((0 : Int64) ≤ b) then 1 else -1
theorem adds_wp {u : St} {K L : Int} (h : mB u K L) (hK : K + 2533274790395904 ≤ 4611686018427387904) (a b : Int64) (ha : -9223372036854775808 < a.toInt) (hb : -9223372036854775808 < b.toInt) : wp (m_X4_adds u a b) (fun v => Oc 7 u v ∧ mB v (K + 2533274790395904) L ∧ mV v = mV u + a.toInt * b.toInt) := by
  unfold m_X4_adds
  have ra := fb_rngL a
  have rb := fb_rngL b
  have xa := absL_T ha
  have xb := absL_T hb
  rw [s01, s01]
  simp only [Option.bind_some, bI_inj, amountOf_eq]
  -- the sign
  have hsg : ∃ s : Int64, (if (!decide ((0 : Int64) ≤ a)) = (!decide ((0 : Int64) ≤ b)) then some (1 : Int64) else some ((-1) : Int64)) = some s ∧ (s.toInt = 1 ∨ s.toInt = -1) ∧ s.toInt * (absL a).toInt * (absL b).toInt = a.toInt * b.toInt := by
    rw [xa, xb]
    have ea : ((0 : Int64) ≤ a) ↔ 0 ≤ a.toInt := by rw [fa_le64, L_0]
    have eb : ((0 : Int64) ≤ b) ↔ 0 ≤ b.toInt := by rw [fa_le64, L_0]
    by_cases p1 : 0 ≤ a.toInt
    · rw [if_pos p1, decide_eq_true (ea.mpr p1)]
      by_cases p2 : 0 ≤ b.toInt
      · rw [if_pos p2, decide_eq_true (eb.mpr p2)]
        exact ⟨1, rfl, Or.inl (by decide), by rw [L_1, Int.one_mul]⟩
      · rw [if_neg p2, decide_eq_false (fun q => p2 (eb.mp q))]
        exact ⟨-1, rfl, Or.inr (by decide), by rw [show (-1 : Int64).toInt = -1 by decide]; grind⟩
    · rw [if_neg p1, decide_eq_false (fun q => p1 (ea.mp q))]
      by_cases p2 : 0 ≤ b.toInt
      · rw [if_pos p2, decide_eq_true (eb.mpr p2)]
        exact ⟨-1, rfl, Or.inr (by decide), by rw [show (-1 : Int64).toInt = -1 by decide]; grind⟩
      · rw [if_neg p2, decide_eq_false (fun q => p2 (eb.mp q))]
        exact ⟨1, rfl, Or.inl (by decide), by rw [L_1]; grind⟩
  obtain ⟨s, es, hs1, hs2⟩ := hsg
  rw [es, Option.bind_some]
  have x0 : 0 ≤ (absL a).toInt ∧ (absL a).toInt < 9223372036854775808 := by rw [xa]; split <;> omega
  have y0 : 0 ≤ (absL b).toInt ∧ (absL b).toInt < 9223372036854775808 := by rw [xb]; split <;> omega
  have sx := parts_sum x0.1 x0.2
  have sy := parts_sum y0.1 y0.2
  generalize hX : absL a = X at *
  generalize hY : absL b = Y at *
  let F : Nat → Nat → Int := fun i j => pw24 (i + j) * (s.toInt * ptI X.toInt i * ptI Y.toInt j)
  have fin : fb_si (fun i => fb_si (F i) 3) 3 = a.toInt * b.toInt := by
    rw [← hs2, ← ring9 s.toInt X.toInt Y.toInt (ptI X.toInt 0) (ptI X.toInt 1) (ptI X.toInt 2) (ptI Y.toInt 0) (ptI Y.toInt 1) (ptI Y.toInt 2) sx sy]
    simp only [fb_si, F, pw24, Nat.reduceAdd, Int.zero_add]
  have prod : ∀ i j, ∀ p r : Int64, p.toInt = ptI X.toInt i → r.toInt = ptI Y.toInt j → ((s * p) * r).toInt = s.toInt * ptI X.toInt i * ptI Y.toInt j ∧ -281474976710656 ≤ ((s * p) * r).toInt ∧ ((s * p) * r).toInt ≤ 281474976710656 := by
    intro i j p r hp hr
    have pi := ptI_in X.toInt i
    have pj := ptI_in Y.toInt j
    have m1 : -16777216 ≤ s.toInt * ptI X.toInt i ∧ s.toInt * ptI X.toInt i ≤ 16777216 := by rcases hs1 with q | q <;> rw [q] <;> omega
    have e1 : (s * p).toInt = s.toInt * ptI X.toInt i := by rw [fb_mulL (by rw [hp]; omega) (by rw [hp]; omega), hp]
    have m2 := mul_in (a := s.toInt * ptI X.toInt i) (b := ptI Y.toInt j) (A := 16777216) (B := 16777216) (by decide) m1 (by omega)
    have e2 : ((s * p) * r).toInt = s.toInt * ptI X.toInt i * ptI Y.toInt j := by rw [fb_mulL (by rw [e1, hr]; omega) (by rw [e1, hr]; omega), e1, hr]
    rw [e2]
    exact ⟨rfl, by omega, by omega⟩
  refine wp_bm (Q := fun v => Oc 7 u v ∧ mB v (K + 2533274790395904) L ∧ mV v = mV u + a.toInt * b.toInt) (wp_lp 3 (fun i (z : Int32 × St) => z.1 = nI i ∧ Oc 7 u z.2 ∧ mB z.2 (K + 844424930131968 * (i : Int)) L ∧ mV z.2 = mV u + fb_si (fun i => fb_si (F i) 3) i) (by decide) ⟨rfl, Oc.rf, by simpa using h, by simp [fb_si]⟩ (fun i z hi hJ => ?_) (fun z hJ => ?_)) (fun v hv => wp_some hv)
  · obtain ⟨z1, v⟩ := z
    obtain ⟨e1, g1, g2, g3⟩ := hJ
    simp only at e1 g1 g2 g3
    subst e1
    simp only [if_neg (show ¬ (3 : Int32) ≤ nI i from nI_ge (b := 3) hi (by decide))]
    refine wp_bm (Q := fun v2 => Oc 7 u v2 ∧ mB v2 (K + 844424930131968 * ((i + 1 : Nat) : Int)) L ∧ mV v2 = mV u + fb_si (fun i => fb_si (F i) 3) (i + 1)) (wp_lp 3 (fun j (z : Int32 × St) => z.1 = nI j ∧ Oc 7 u z.2 ∧ mB z.2 (K + 844424930131968 * (i : Int) + 281474976710656 * (j : Int)) L ∧ mV z.2 = mV u + fb_si (fun i => fb_si (F i) 3) i + fb_si (F i) j) (by decide) ⟨rfl, g1, by simpa using g2, by simpa [fb_si] using g3⟩ (fun j z hj hJ => ?_) (fun z hJ => ?_)) (fun v2 hv2 => wp_some ⟨nI_s i, hv2⟩)
    · obtain ⟨z1, v2⟩ := z
      obtain ⟨e1, f1, f2, f3⟩ := hJ
      simp only at e1 f1 f2 f3
      subst e1
      simp only [if_neg (show ¬ (3 : Int32) ≤ nI j from nI_ge (b := 3) hj (by decide)), nI_add, ix6 (show i + j < 6 by omega), Option.bind_some]
      refine wp_bm (part_wp v2 X hi) (fun p hp => wp_bm (part_wp v2 Y hj) (fun r hr => ?_))
      obtain ⟨t1, t2⟩ := prod i j p r hp hr
      obtain ⟨k1, k2⟩ := addl (k := i + j) (e := (s * p) * r) f2 (by omega) t2 (by omega)
      refine wp_some ⟨nI_s j, f1.sL, ?_, ?_⟩
      · rw [show ((j + 1 : Nat) : Int) = (j : Int) + 1 from rfl, show K + 844424930131968 * (i : Int) + 281474976710656 * ((j : Int) + 1) = K + 844424930131968 * (i : Int) + 281474976710656 * (j : Int) + 281474976710656 by omega]
        exact k1
      · rw [show fb_si (F i) (j + 1) = fb_si (F i) j + F i j from rfl]
        refine k2.trans ?_
        rw [f3, t1]
        show _ + pw24 (i + j) * (s.toInt * ptI X.toInt i * ptI Y.toInt j) = _ + (_ + pw24 (i + j) * (s.toInt * ptI X.toInt i * ptI Y.toInt j))
        rw [← Int.add_assoc]
    · obtain ⟨z1, v2⟩ := z
      obtain ⟨e1, f1, f2, f3⟩ := hJ
      simp only at e1 f1 f2 f3
      subst e1
      refine wp_eq (if_pos (show (3 : Int32) ≤ nI 3 by decide)) ⟨f1, ?_, ?_⟩
      · rw [show K + 844424930131968 * ((i + 1 : Nat) : Int) = K + 844424930131968 * (i : Int) + 281474976710656 * ((3 : Nat) : Int) by omega]
        exact f2
      · rw [f3, show fb_si (fun i => fb_si (F i) 3) (i + 1) = fb_si (fun i => fb_si (F i) 3) i + fb_si (F i) 3 from rfl, ← Int.add_assoc]
  · obtain ⟨z1, v⟩ := z
    obtain ⟨e1, g1, g2, g3⟩ := hJ
    simp only at e1 g1 g2 g3
    subst e1
    refine wp_eq (if_pos (show (3 : Int32) ≤ nI 3 by decide)) ⟨g1, ?_, by rw [g3, fin]⟩
    rw [show K + 2533274790395904 = K + 844424930131968 * ((3 : Nat) : Int) by omega]
    exact g2
