/-! ===== products, and the long that a wide number is ===== -/
theorem prod_id (x y a b c d : Int) (hx : x = a + 2147483648 * b) (hy : y = c + 2147483648 * d) : a * c + 2147483648 * (b * c) + 2147483648 * (a * d) + 4611686018427387904 * (b * d) = x * y := by
  subst hx hy
  grind
/-- a product comes to it, if each part stays within -/
theorem wPrd_wp {σ : St} {z : Int} {B : Nat} {x y : Int64} (h : Wd σ z B) (hB : B ≤ 3990) (h0 : -9223372032559808512 ≤ (x.toInt % 2147483648) * (y.toInt % 2147483648) ∧ (x.toInt % 2147483648) * (y.toInt % 2147483648) ≤ 9223372032559808512) (h1 : -9223372032559808512 ≤ (x.toInt / 2147483648) * (y.toInt % 2147483648) ∧ (x.toInt / 2147483648) * (y.toInt % 2147483648) ≤ 9223372032559808512) (h2 : -9223372032559808512 ≤ (x.toInt % 2147483648) * (y.toInt / 2147483648) ∧ (x.toInt % 2147483648) * (y.toInt / 2147483648) ≤ 9223372032559808512) (h3 : -9223372032559808512 ≤ (x.toInt / 2147483648) * (y.toInt / 2147483648) ∧ (x.toInt / 2147483648) * (y.toInt / 2147483648) ≤ 9223372032559808512) : wp (c_X2_includeProduct σ x y) (fun τ => Oc 25 σ τ ∧ Wd τ (z + x.toInt * y.toInt) (B + 4)) := by
  unfold c_X2_includeProduct
  have ea : ∀ t : Int64, (t &&& (2147483647 : Int64)).toInt = t.toInt % 2147483648 := and31
  have es : ∀ t : Int64, (t >>> (((31 : Int32)).toInt64 &&& 63)).toInt = t.toInt / 2147483648 := sar31
  have m : ∀ p r : Int64, -9223372032559808512 ≤ p.toInt * r.toInt ∧ p.toInt * r.toInt ≤ 9223372032559808512 → (p * r).toInt = p.toInt * r.toInt := fun p r hpr => fb_mulL (by omega) (by omega)
  have e0 := m (x &&& (2147483647 : Int64)) (y &&& (2147483647 : Int64)) (by rw [ea, ea]; exact h0)
  have e1 := m (x >>> (((31 : Int32)).toInt64 &&& 63)) (y &&& (2147483647 : Int64)) (by rw [es, ea]; exact h1)
  have e2 := m (x &&& (2147483647 : Int64)) (y >>> (((31 : Int32)).toInt64 &&& 63)) (by rw [ea, es]; exact h2)
  have e3 := m (x >>> (((31 : Int32)).toInt64 &&& 63)) (y >>> (((31 : Int32)).toInt64 &&& 63)) (by rw [es, es]; exact h3)
  rw [ea, ea] at e0
  rw [es, ea] at e1
  rw [ea, es] at e2
  rw [es, es] at e3
  refine wp_bm (incl0_wp h (by omega) (by rw [e0]; exact h0)) (fun τ1 g1 => ?_)
  refine wp_bm (incl1_wp g1.2 (by omega) (by rw [e1]; exact h1)) (fun τ2 g2 => ?_)
  refine wp_bm (incl1_wp g2.2 (by omega) (by rw [e2]; exact h2)) (fun τ3 g3 => ?_)
  refine wp_bm (incl2_wp g3.2 (by omega) (by rw [e3]; exact h3)) (fun τ4 g4 => wp_some ⟨((g1.1.tr g2.1).tr g3.1).tr g4.1, ?_⟩)
  have g := g4.2
  rw [e0, e1, e2, e3] at g
  have hp := prod_id x.toInt y.toInt (x.toInt % 2147483648) (x.toInt / 2147483648) (y.toInt % 2147483648) (y.toInt / 2147483648) (by omega) (by omega)
  rw [← hp]
  have e : z + x.toInt % 2147483648 * (y.toInt % 2147483648) + 2147483648 * (x.toInt / 2147483648 * (y.toInt % 2147483648)) + 2147483648 * (x.toInt % 2147483648 * (y.toInt / 2147483648)) + 4611686018427387904 * (x.toInt / 2147483648 * (y.toInt / 2147483648)) = z + (x.toInt % 2147483648 * (y.toInt % 2147483648) + 2147483648 * (x.toInt / 2147483648 * (y.toInt % 2147483648)) + 2147483648 * (x.toInt % 2147483648 * (y.toInt / 2147483648)) + 4611686018427387904 * (x.toInt / 2147483648 * (y.toInt / 2147483648))) := by
    generalize x.toInt % 2147483648 * (y.toInt % 2147483648) = p1
    generalize x.toInt / 2147483648 * (y.toInt % 2147483648) = p2
    generalize x.toInt % 2147483648 * (y.toInt / 2147483648) = p3
    generalize x.toInt / 2147483648 * (y.toInt / 2147483648) = p4
    omega
  rw [← e]
  exact g
/-- bounds of a product of two numbers -/
theorem mul_in {a b A B : Int} (hA : 0 ≤ A) (ha : -A ≤ a ∧ a ≤ A) (hb : -B ≤ b ∧ b ≤ B) : -(A * B) ≤ a * b ∧ a * b ≤ A * B := by
  have hB : 0 ≤ B := by omega
  have h1 : (a * b).natAbs ≤ (A * B).natAbs := by
    rw [Int.natAbs_mul, Int.natAbs_mul]
    exact Nat.mul_le_mul (by omega) (by omega)
  have h2 : 0 ≤ A * B := Int.mul_nonneg hA hB
  omega
theorem wPrd62 {σ : St} {z : Int} {B : Nat} {x y : Int64} (h : Wd σ z B) (hB : B ≤ 3990) (hx : -4611686018427387904 ≤ x.toInt ∧ x.toInt < 4611686018427387904) (hy : -4611686018427387904 ≤ y.toInt ∧ y.toInt < 4611686018427387904) : wp (c_X2_includeProduct σ x y) (fun τ => Oc 25 σ τ ∧ Wd τ (z + x.toInt * y.toInt) (B + 4)) := by
  have x1 : -2147483648 ≤ x.toInt % 2147483648 ∧ x.toInt % 2147483648 ≤ 2147483648 := by omega
  have x2 : -2147483648 ≤ x.toInt / 2147483648 ∧ x.toInt / 2147483648 ≤ 2147483648 := by omega
  have y1 : -2147483648 ≤ y.toInt % 2147483648 ∧ y.toInt % 2147483648 ≤ 2147483648 := by omega
  have y2 : -2147483648 ≤ y.toInt / 2147483648 ∧ y.toInt / 2147483648 ≤ 2147483648 := by omega
  have t : ∀ {a b : Int}, -2147483648 ≤ a ∧ a ≤ 2147483648 → -2147483648 ≤ b ∧ b ≤ 2147483648 → -9223372032559808512 ≤ a * b ∧ a * b ≤ 9223372032559808512 := fun ha hb => by
    have := mul_in (by decide) ha hb
    omega
  exact wPrd_wp h hB (t x1 y1) (t x2 y1) (t x1 y2) (t x2 y2)
def lgB (z : Int) : Bool := decide (-9223372036854775808 ≤ z) && decide (z < 9223372036854775808)
theorem isLong_eq {σ : St} {z : Int} {B : Nat} (h : Wd σ z B) : c_X2_isLong σ = some (bI (lgB z)) := by
  obtain ⟨b0, b1, b2, b3, hz⟩ := h
  unfold c_X2_isLong
  rw [show ix (3 : Int32) 4 = some 3 from rfl, show ix (2 : Int32) 4 = some 2 from rfl]
  simp only [Option.bind_some, fa_eq64, fa_lt64, L_0, L_1, show (-1 : Int64).toInt = -1 from by decide, show (2147483646 : Int64).toInt = 2147483646 from by decide]
  generalize (σ.2 25 0).toInt = l0 at *
  generalize (σ.2 25 1).toInt = l1 at *
  generalize (σ.2 25 2).toInt = l2 at *
  generalize (σ.2 25 3).toInt = l3 at *
  unfold lgB
  by_cases q3 : l3 = 0
  · subst q3
    rw [if_pos rfl]
    by_cases q2 : 1 < l2
    · rw [if_pos q2, decide_eq_false (show ¬ z < 9223372036854775808 by omega), Bool.and_false]
      rfl
    · rw [if_neg q2, decide_eq_true (show z < 9223372036854775808 by omega), decide_eq_true (show -9223372036854775808 ≤ z by omega)]
      rfl
  · rw [if_neg q3]
    by_cases q4 : l3 = -1
    · subst q4
      rw [if_pos rfl]
      by_cases q2 : l2 < 2147483646
      · rw [if_pos q2, decide_eq_false (show ¬ -9223372036854775808 ≤ z by omega), Bool.false_and]
        rfl
      · rw [if_neg q2, decide_eq_true (show z < 9223372036854775808 by omega), decide_eq_true (show -9223372036854775808 ≤ z by omega)]
        rfl
    · rw [if_neg q4]
      by_cases q5 : 0 < l3
      · rw [decide_eq_false (show ¬ z < 9223372036854775808 by omega), Bool.and_false]
        rfl
      · rw [decide_eq_false (show ¬ -9223372036854775808 ≤ z by omega), Bool.false_and]
        rfl
theorem lN_pos {x : Int64} (h : 0 ≤ x.toInt) : ∃ a : Nat, x = lN a ∧ (a : Int) = x.toInt := by
  have hr := fb_rngL x
  refine ⟨x.toInt.toNat, ?_, by omega⟩
  rw [fa_eq64, pk_lT (by omega)]
  omega
theorem asLong_wp {σ : St} {z : Int} {B : Nat} (h : Wd σ z B) (hl : lgB z = true) : wp (c_X2_asLong σ) (fun x => x.toInt = z) := by
  obtain ⟨b0, b1, b2, b3, hz⟩ := h
  unfold c_X2_asLong
  rw [show ix (0 : Int32) 4 = some 0 from rfl, show ix (1 : Int32) 4 = some 1 from rfl, show ix (2 : Int32) 4 = some 2 from rfl]
  simp only [Option.bind_some]
  obtain ⟨a, ea, ha⟩ := lN_pos b0.1
  obtain ⟨b, eb, hb⟩ := lN_pos b1.1
  obtain ⟨d, ed, hd⟩ := lN_pos b2.1
  rw [ea, eb, ed]
  rw [← ha, ← hb, ← hd] at hz
  rw [← ha] at b0
  rw [← hb] at b1
  rw [← hd] at b2
  have e1 : lN b <<< (((31 : Int32)).toInt64 &&& 63) = lN (b * 2147483648) := wb_shl b (k := 31) (by decide)
  have e2 : lN d <<< (((62 : Int32)).toInt64 &&& 63) = lN (d * 4611686018427387904) := wb_shl d (k := 62) (by decide)
  have e3 : lN a ||| lN (b * 2147483648) = lN (a + b * 2147483648) := g_or' (k := 31) (by decide) (by omega) (by omega)
  have e4 : lN (d * 4611686018427387904) = lN (d % 4 * 4611686018427387904) := by
    have e : d * 4611686018427387904 % 2 ^ 64 = d % 4 * 4611686018427387904 % 2 ^ 64 := by omega
    rw [wb_mod, e, ← wb_mod]
  have e5 : lN (a + b * 2147483648) ||| lN (d % 4 * 4611686018427387904) = lN (a + b * 2147483648 + d % 4 * 4611686018427387904) := g_or' (k := 62) (by decide) (by omega) (by omega)
  rw [e1, e2, e3, e4, e5]
  refine wp_some ?_
  rw [lN_ti31 (by omega)]
  unfold lgB at hl
  rw [Bool.and_eq_true, decide_eq_true_eq, decide_eq_true_eq] at hl
  generalize (σ.2 25 3).toInt = l3 at *
  have h3 : l3 = 0 ∨ l3 = -1 := by omega
  rcases h3 with rfl | rfl
  · split <;> omega
  · split <;> omega
theorem exact_wp {σ : St} {z : Int} {B : Nat} (h : Wd σ z B) : wp (c_X2_exactLong σ) (fun p => (lgB z = true ∧ ∃ x, p = (.ok x, σ) ∧ x.toInt = z) ∨ (lgB z = false ∧ p = (.error "java/lang/ArithmeticException", σ))) := by
  unfold c_X2_exactLong
  rw [isLong_eq h, Option.bind_some, needLong_eq, xB_gX]
  by_cases hl : lgB z = true
  · rw [if_pos hl]
    refine wp_bm (asLong_wp h hl) (fun x hx => wp_some (Or.inl ⟨hl, x, rfl, hx⟩))
  · rw [if_neg hl]
    rw [Bool.not_eq_true] at hl
    exact wp_some (Or.inr ⟨hl, rfl⟩)
