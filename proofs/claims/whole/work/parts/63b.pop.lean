theorem sm_two (b : Nat → Nat) : ∀ n, fb_sm b (2 * n) = fb_sm (fun i => b (2 * i) + b (2 * i + 1)) n
  | 0 => rfl
  | n + 1 => by
    rw [show 2 * (n + 1) = 2 * n + 1 + 1 by omega, fb_sm_succ, fb_sm_succ, fb_sm_succ, sm_two b n]
    omega
theorem dig8 (e : Nat → Nat) : dig 256 e 8 = e 0 + 256 * (e 1 + 256 * (e 2 + 256 * (e 3 + 256 * (e 4 + 256 * (e 5 + 256 * (e 6 + 256 * e 7)))))) := by
  simp only [dig, Nat.mul_zero, Nat.add_zero, Nat.zero_add, Nat.reduceAdd]
theorem sm8 (e : Nat → Nat) : fb_sm e 8 = e 0 + e 1 + e 2 + e 3 + e 4 + e 5 + e 6 + e 7 := by
  simp only [fb_sm, Nat.zero_add]
theorem pe1 {e0 e1 e2 X0 X1 X2 X3 : Nat} (x0 : X0 = e0 + 256 * X1) (x1 : X1 = e1 + 256 * X2) (x2 : X2 = e2 + 256 * X3) : X0 + X1 = (e0 + e1 + 256 * (e1 + e2)) + 65536 * (X2 + X3) := by omega
theorem pe2 {Y0 Y1 Y2 Y3 Y4 a0 a1 a2 a3 : Nat} (h0 : Y0 = a0 + 256 * Y1) (h1 : Y1 = a1 + 256 * Y2) (h2 : Y2 = a2 + 256 * Y3) (h3 : Y3 = a3 + 256 * Y4) : Y0 = (a0 + 256 * a1 + 65536 * a2 + 16777216 * a3) + 4294967296 * Y4 := by omega
theorem pe3 {e X Y : Nat} {B : Nat} (h : X = e + 256 * Y) (he : e ≤ 8) (hY : Y ≤ B) : X ≤ 8 + 256 * B := by omega
theorem pe4 {a b X Y : Nat} (hb : a = 256 * b + X) (hX : X ≤ 64) : a % 128 = X := by omega
theorem pop_end {e0 e1 e2 e3 e4 e5 e6 e7 X0 X1 X2 X3 X4 X5 X6 X7 N4 N5 N6 : Nat} (f0 : e0 ≤ 8) (f1 : e1 ≤ 8) (f2 : e2 ≤ 8) (f3 : e3 ≤ 8) (f4 : e4 ≤ 8) (f5 : e5 ≤ 8) (f6 : e6 ≤ 8) (f7 : e7 ≤ 8) (x0 : X0 = e0 + 256 * X1) (x1 : X1 = e1 + 256 * X2) (x2 : X2 = e2 + 256 * X3) (x3 : X3 = e3 + 256 * X4) (x4 : X4 = e4 + 256 * X5) (x5 : X5 = e5 + 256 * X6) (x6 : X6 = e6 + 256 * X7) (x7 : X7 = e7) (h4 : N4 = X0 + X0 / 256) (h5 : N5 = N4 + N4 / 65536) (h6 : N6 = N5 + N5 / 4294967296) :
    X0 < 2 ^ 60 ∧ N4 < 2 ^ 61 ∧ N5 < 2 ^ 62 ∧ N6 < 2 ^ 63 ∧ N6 % 128 = e0 + e1 + e2 + e3 + e4 + e5 + e6 + e7 := by
  have y4 : N4 = X0 + X1 := by
    have : X0 / 256 = X1 := by
      rw [x0, Nat.add_mul_div_left _ _ (by decide), Nat.div_eq_of_lt (Nat.lt_of_le_of_lt f0 (by decide)), Nat.zero_add]
    rw [h4, this]
  have y5 : N5 = X0 + X1 + (X2 + X3) := by
    have : N4 / 65536 = X2 + X3 := by
      rw [y4, pe1 x0 x1 x2, Nat.add_mul_div_left _ _ (by decide), Nat.div_eq_of_lt (by clear h4 h5 h6 y4 x0 x1 x2 x3 x4 x5 x6 x7; omega), Nat.zero_add]
    rw [h5, this, y4]
  clear h4 h5
  have q0 : X0 + X1 + (X2 + X3) = (e0 + e1 + (e2 + e3)) + 256 * (X1 + X2 + (X3 + X4)) := by clear h6 y4 y5 x4 x5 x6 x7; omega
  have q1 : X1 + X2 + (X3 + X4) = (e1 + e2 + (e3 + e4)) + 256 * (X2 + X3 + (X4 + X5)) := by clear h6 y4 y5 q0 x0 x5 x6 x7; omega
  have q2 : X2 + X3 + (X4 + X5) = (e2 + e3 + (e4 + e5)) + 256 * (X3 + X4 + (X5 + X6)) := by clear h6 y4 y5 q0 q1 x0 x1 x6 x7; omega
  have q3 : X3 + X4 + (X5 + X6) = (e3 + e4 + (e5 + e6)) + 256 * (X4 + X5 + (X6 + X7)) := by clear h6 y4 y5 q0 q1 q2 x0 x1 x2 x7; omega
  have y6 : N6 = X0 + X1 + (X2 + X3) + (X4 + X5 + (X6 + X7)) := by
    have : N5 / 4294967296 = X4 + X5 + (X6 + X7) := by
      rw [y5, pe2 q0 q1 q2 q3, Nat.add_mul_div_left _ _ (by decide), Nat.div_eq_of_lt (by clear h6 y4 y5 q0 q1 q2 q3 x0 x1 x2 x3 x4 x5 x6 x7; omega), Nat.zero_add]
    rw [h6, this, y5]
  clear h6 q0 q1 q2 q3
  have b7 : X7 ≤ 8 := Nat.le_trans (Nat.le_of_eq x7) f7
  have b6 := pe3 x6 f6 b7
  have b5 := pe3 x5 f5 b6
  have b4 := pe3 x4 f4 b5
  have b3 := pe3 x3 f3 b4
  have b2 := pe3 x2 f2 b3
  have b1 := pe3 x1 f1 b2
  have b0 := pe3 x0 f0 b1
  have z : N6 = 256 * (X1 + X2 + X3 + X4 + X5 + X6 + X7) + (e0 + e1 + e2 + e3 + e4 + e5 + e6 + e7) := by clear b0 b1 b2 b3 b4 b5 b6 b7 f0 f1 f2 f3 f4 f5 f6 f7 y4 y5; omega
  refine ⟨?_, ?_, ?_, ?_, pe4 (Y := 0) z (by clear z y4 y5 y6 x0 x1 x2 x3 x4 x5 x6 x7 b0 b1 b2 b3 b4 b5 b6 b7; omega)⟩
  all_goals
    clear x0 x1 x2 x3 x4 x5 x6 x7 z f0 f1 f2 f3 f4 f5 f6 f7
    omega
theorem eb8 (d : Nat → Nat) (db : ∀ i, d i ≤ 4) (i : Nat) : d i + (if i < 15 then d (i + 1) else 0) ≤ 8 := by
  have h1 := db i
  have h2 := db (i + 1)
  split <;> omega
theorem eb9 (d : Nat → Nat) {i : Nat} (hi : i < 8) : d (2 * i) + (if 2 * i < 15 then d (2 * i + 1) else 0) = d (2 * i) + d (2 * i + 1) := by rw [if_pos (by omega)]
/-- the five steps, over a number -/
theorem pop_nat {N N1 N2 N3 N4 N5 N6 : Nat} (b : Nat → Nat) (hb : ∀ i, b i ≤ 1) (hN : N = dig 2 b 64) (h1 : N1 = N - ((N / 2) &&& 6148914691236517205)) (h2 : N2 = (N1 &&& 3689348814741910323) + ((N1 / 4) &&& 3689348814741910323)) (h3 : N3 = (N2 + N2 / 16) &&& 1085102592571150095) (h4 : N4 = N3 + N3 / 256) (h5 : N5 = N4 + N4 / 65536) (h6 : N6 = N5 + N5 / 4294967296) :
    ((N / 2) &&& 6148914691236517205) ≤ N ∧ N1 < 2 ^ 64 ∧ N2 < 2 ^ 64 ∧ N2 + N2 / 16 < 2 ^ 64 ∧ N3 < 2 ^ 60 ∧ N4 < 2 ^ 61 ∧ N5 < 2 ^ 62 ∧ N6 < 2 ^ 63 ∧ N6 % 128 = fb_sm b 64 := by
  have k1 : (N / 2) &&& 6148914691236517205 = dig 4 (fun i => b (2 * i + 1)) 32 := by
    have := dig_mask1 1 31 b (fun i _ => Nat.lt_of_le_of_lt (hb i) (by decide))
    rw [m5] at this
    rw [hN]
    exact this
  have k0 : N = dig 4 (fun i => b (2 * i) + 2 * b (2 * i + 1)) 32 := by rw [hN]; exact dig_two 2 32 b
  have k2 : N = dig 4 (fun i => b (2 * i) + b (2 * i + 1)) 32 + dig 4 (fun i => b (2 * i + 1)) 32 := by
    rw [k0, ← dig_add]
    exact dig_cg _ _ _ _ (fun i _ => by rw [Nat.two_mul (b (2 * i + 1)), ← Nat.add_assoc])
  have hN1 : N1 = dig 4 (fun i => b (2 * i) + b (2 * i + 1)) 32 := by
    rw [h1, k1]
    exact Nat.sub_eq_of_eq_add k2
  have le1 : ((N / 2) &&& 6148914691236517205) ≤ N := by
    rw [k1]
    exact Nat.le_trans (Nat.le_add_left _ _) (Nat.le_of_eq k2.symm)
  have y1 : fb_sm b 64 = fb_sm (fun i => b (2 * i) + b (2 * i + 1)) 32 := sm_two b 32
  have cb0 : ∀ i, b (2 * i) + b (2 * i + 1) ≤ 2 := fun i => Nat.add_le_add (hb (2 * i)) (hb (2 * i + 1))
  clear k0 k1 k2 h1 hN
  obtain ⟨c, hc⟩ : ∃ c : Nat → Nat, c = fun i => b (2 * i) + b (2 * i + 1) := ⟨_, rfl⟩
  rw [← hc] at hN1 y1
  have cb : ∀ i, c i ≤ 2 := fun i => by rw [hc]; exact cb0 i
  have q1 : N1 &&& 3689348814741910323 = dig 16 (fun i => c (2 * i)) 16 := by
    have := dig_mask 2 16 c (fun i _ => Nat.lt_of_le_of_lt (cb i) (by decide))
    rw [m3] at this
    rw [hN1]
    exact this
  have q2 : N1 / 4 &&& 3689348814741910323 = dig 16 (fun i => c (2 * i + 1)) 16 := by
    have := dig_mask1 2 15 c (fun i _ => Nat.lt_of_le_of_lt (cb i) (by decide))
    rw [m3] at this
    rw [hN1]
    exact this
  have hN2 : N2 = dig 16 (fun i => c (2 * i) + c (2 * i + 1)) 16 := by rw [h2, q1, q2, dig_add]
  have x1 : N1 < 2 ^ 64 := by
    have := dig_lt 4 (by decide) 32 c (fun i _ => Nat.lt_of_le_of_lt (cb i) (by decide))
    rw [← hN1] at this
    exact this
  have y2 : fb_sm c 32 = fb_sm (fun i => c (2 * i) + c (2 * i + 1)) 16 := sm_two c 16
  have db0 : ∀ i, c (2 * i) + c (2 * i + 1) ≤ 4 := fun i => Nat.add_le_add (cb (2 * i)) (cb (2 * i + 1))
  clear q1 q2 h2 hN1
  obtain ⟨d, hd⟩ : ∃ d : Nat → Nat, d = fun i => c (2 * i) + c (2 * i + 1) := ⟨_, rfl⟩
  rw [← hd] at hN2 y2
  have db : ∀ i, d i ≤ 4 := fun i => by rw [hd]; exact db0 i
  have q3 : N2 / 16 = dig 16 (fun i => if i < 15 then d (i + 1) else 0) 16 := by
    rw [hN2, dig_div 16 (by decide) 15 d (Nat.lt_of_le_of_lt (db 0) (by decide)), dig_top 16 15 _ (if_neg (by decide))]
    exact dig_cg _ _ _ _ (fun i hi => (if_pos hi).symm)
  have q4 : N2 + N2 / 16 = dig 16 (fun i => d i + (if i < 15 then d (i + 1) else 0)) 16 := by rw [q3, hN2, dig_add]
  have eb : ∀ i, d i + (if i < 15 then d (i + 1) else 0) ≤ 8 := eb8 d db
  have hN3 : N3 = dig 256 (fun i => d (2 * i) + d (2 * i + 1)) 8 := by
    have := dig_mask 4 8 (fun i => d i + (if i < 15 then d (i + 1) else 0)) (fun i _ => Nat.lt_of_le_of_lt (eb i) (by decide))
    rw [mf] at this
    rw [h3, q4]
    refine this.trans (dig_cg _ _ _ _ (fun i hi => ?_))
    exact eb9 d hi
  have x2 : N2 < 2 ^ 64 := by
    have := dig_lt 16 (by decide) 16 d (fun i _ => Nat.lt_of_le_of_lt (db i) (by decide))
    rw [← hN2] at this
    exact this
  have x3 : N2 + N2 / 16 < 2 ^ 64 := by
    have := dig_lt 16 (by decide) 16 (fun i => d i + (if i < 15 then d (i + 1) else 0)) (fun i _ => Nat.lt_of_le_of_lt (eb i) (by decide))
    rw [← q4] at this
    exact this
  have y3 : fb_sm d 16 = fb_sm (fun i => d (2 * i) + d (2 * i + 1)) 8 := sm_two d 8
  have ee0 : ∀ i, d (2 * i) + d (2 * i + 1) ≤ 8 := fun i => Nat.add_le_add (db (2 * i)) (db (2 * i + 1))
  clear q3 q4 h3 hN2 eb
  obtain ⟨e, he⟩ : ∃ e : Nat → Nat, e = fun i => d (2 * i) + d (2 * i + 1) := ⟨_, rfl⟩
  rw [← he] at hN3 y3
  have ee : ∀ i, e i ≤ 8 := fun i => by rw [he]; exact ee0 i
  rw [dig8] at hN3
  have pe := pop_end (ee 0) (ee 1) (ee 2) (ee 3) (ee 4) (ee 5) (ee 6) (ee 7) hN3 rfl rfl rfl rfl rfl rfl rfl h4 h5 h6
  rw [sm8] at y3
  refine ⟨le1, x1, x2, x3, pe.1, pe.2.1, pe.2.2.1, pe.2.2.2.1, ?_⟩
  rw [pe.2.2.2.2, y1, y2, y3]
