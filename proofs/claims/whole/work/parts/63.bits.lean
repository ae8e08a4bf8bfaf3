/-! ===== how many bits a long has ===== -/
def dig (B : Nat) : (Nat → Nat) → Nat → Nat
  | _, 0 => 0
  | d, n + 1 => d 0 + B * dig B (fun i => d (i + 1)) n
theorem dig_s (B : Nat) (d : Nat → Nat) (n : Nat) : dig B d (n + 1) = d 0 + B * dig B (fun i => d (i + 1)) n := rfl
theorem dig_add (B : Nat) : ∀ (n : Nat) (c d : Nat → Nat), dig B (fun i => c i + d i) n = dig B c n + dig B d n
  | 0, _, _ => rfl
  | n + 1, c, d => by
    rw [dig_s, dig_s, dig_s, dig_add B n (fun i => c (i + 1)) (fun i => d (i + 1)), Nat.mul_add]
    omega
theorem dig_two (B : Nat) : ∀ (n : Nat) (c : Nat → Nat), dig B c (2 * n) = dig (B * B) (fun i => c (2 * i) + B * c (2 * i + 1)) n
  | 0, _ => rfl
  | n + 1, c => by
    rw [show 2 * (n + 1) = 2 * n + 1 + 1 by omega, dig_s, dig_s, dig_s, dig_two B n (fun i => c (i + 1 + 1)), Nat.mul_add, Nat.mul_assoc B B]
    simp only [show ∀ i, 2 * (i + 1) = 2 * i + 1 + 1 from fun i => by omega]
    omega
/-- a digit less at the end, if it is 0 -/
theorem dig_top (B : Nat) : ∀ (n : Nat) (c : Nat → Nat), c n = 0 → dig B c (n + 1) = dig B c n
  | 0, c, h => by rw [dig_s, h]; rfl
  | n + 1, c, h => by rw [dig_s, dig_top B n (fun i => c (i + 1)) h, ← dig_s]
theorem dig_cg (B : Nat) : ∀ (n : Nat) (c d : Nat → Nat), (∀ i, i < n → c i = d i) → dig B c n = dig B d n
  | 0, _, _, _ => rfl
  | n + 1, c, d, h => by rw [dig_s, dig_s, h 0 (by omega), dig_cg B n _ (fun i => d (i + 1)) (fun i hi => h (i + 1) (by omega))]
theorem dig_lt (B : Nat) (hB : 0 < B) : ∀ (n : Nat) (c : Nat → Nat), (∀ i, i < n → c i < B) → dig B c n < B ^ n
  | 0, _, _ => by show 0 < B ^ 0; simp
  | n + 1, c, h => by
    rw [dig_s, Nat.pow_succ]
    have h1 := dig_lt B hB n (fun i => c (i + 1)) (fun i hi => h (i + 1) (by omega))
    have h2 := h 0 (by omega)
    have h3 : B * (dig B (fun i => c (i + 1)) n + 1) ≤ B * B ^ n := Nat.mul_le_mul_left B h1
    rw [Nat.mul_add] at h3
    rw [Nat.mul_comm (B ^ n) B]
    omega
theorem and_split (t a b x y : Nat) (ha : a < 2 ^ t) (hb : b < 2 ^ t) : (2 ^ t * x + a) &&& (2 ^ t * y + b) = 2 ^ t * (x &&& y) + (a &&& b) := by
  apply Nat.eq_of_testBit_eq
  intro j
  rw [Nat.testBit_and, Nat.testBit_two_pow_mul_add x ha, Nat.testBit_two_pow_mul_add y hb, Nat.testBit_two_pow_mul_add (x &&& y) (Nat.and_lt_two_pow a hb)]
  by_cases h : j < t
  · simp [h]
  · simp [h]
/-- every other digit -/
theorem dig_mask (t : Nat) : ∀ (n : Nat) (c : Nat → Nat), (∀ i, i < 2 * n → c i < 2 ^ t) → dig (2 ^ t) c (2 * n) &&& dig (2 ^ t * 2 ^ t) (fun _ => 2 ^ t - 1) n = dig (2 ^ t * 2 ^ t) (fun i => c (2 * i)) n
  | 0, _, _ => rfl
  | n + 1, c, h => by
    have h0 := h 0 (by omega)
    have h1 := h 1 (by omega)
    have hp : 0 < 2 ^ t := Nat.pow_pos (by decide)
    rw [show 2 * (n + 1) = 2 * n + 1 + 1 by omega, dig_s, dig_s, dig_s, dig_s]
    have e1 : c 0 + 2 ^ t * (c (0 + 1) + 2 ^ t * dig (2 ^ t) (fun i => c (i + 1 + 1)) (2 * n)) = 2 ^ (t + t) * dig (2 ^ t) (fun i => c (i + 1 + 1)) (2 * n) + (c 0 + 2 ^ t * c 1) := by
      rw [Nat.pow_add, Nat.mul_add, Nat.mul_assoc]
      show c 0 + (2 ^ t * c 1 + _) = _
      omega
    have e2 : 2 ^ t - 1 + 2 ^ t * 2 ^ t * dig (2 ^ t * 2 ^ t) (fun _ => 2 ^ t - 1) n = 2 ^ (t + t) * dig (2 ^ t * 2 ^ t) (fun _ => 2 ^ t - 1) n + (2 ^ t - 1) := by
      rw [Nat.pow_add]; omega
    have l1 : c 0 + 2 ^ t * c 1 < 2 ^ (t + t) := by
      rw [Nat.pow_add]
      have : 2 ^ t * (c 1 + 1) ≤ 2 ^ t * 2 ^ t := Nat.mul_le_mul_left _ h1
      rw [Nat.mul_add] at this
      omega
    have l2 : 2 ^ t - 1 < 2 ^ (t + t) := by
      have : 2 ^ t ≤ 2 ^ (t + t) := Nat.pow_le_pow_right (by decide) (by omega)
      omega
    rw [e1, e2, and_split (t + t) _ _ _ _ l1 l2, dig_mask t n (fun i => c (i + 1 + 1)) (fun i hi => h (i + 1 + 1) (by omega)), Nat.and_two_pow_sub_one_eq_mod, Nat.add_mul_mod_self_left, Nat.mod_eq_of_lt h0, ← Nat.pow_add]
    show _ = c (2 * 0) + _
    rw [Nat.add_comm]
    rfl
theorem dig_div (B : Nat) (hB : 0 < B) (n : Nat) (c : Nat → Nat) (h : c 0 < B) : dig B c (n + 1) / B = dig B (fun i => c (i + 1)) n := by
  rw [dig_s, Nat.add_mul_div_left _ _ hB, Nat.div_eq_of_lt h, Nat.zero_add]
/-- the others -/
theorem dig_mask1 (t : Nat) (n : Nat) (c : Nat → Nat) (h : ∀ i, i < 2 * (n + 1) → c i < 2 ^ t) : dig (2 ^ t) c (2 * (n + 1)) / 2 ^ t &&& dig (2 ^ t * 2 ^ t) (fun _ => 2 ^ t - 1) (n + 1) = dig (2 ^ t * 2 ^ t) (fun i => c (2 * i + 1)) (n + 1) := by
  have hp : 0 < 2 ^ t := Nat.pow_pos (by decide)
  rw [show 2 * (n + 1) = 2 * n + 1 + 1 by omega, dig_div _ hp _ _ (h 0 (by omega))]
  have e : dig (2 ^ t) (fun i => c (i + 1)) (2 * n + 1) = dig (2 ^ t) (fun i => if i < 2 * n + 1 then c (i + 1) else 0) (2 * (n + 1)) := by
    rw [show 2 * (n + 1) = 2 * n + 1 + 1 by omega, dig_top _ (2 * n + 1) _ (if_neg (by omega))]
    exact dig_cg _ _ _ _ (fun i hi => (if_pos hi).symm)
  rw [e, dig_mask t (n + 1) _ (fun i hi => by
    by_cases q : i < 2 * n + 1
    · rw [if_pos q]; exact h (i + 1) (by omega)
    · rw [if_neg q]; exact hp)]
  exact dig_cg _ _ _ _ (fun i hi => if_pos (by omega))
theorem dig_bits : ∀ (n N : Nat), N < 2 ^ n → N = dig 2 (fun i => (N.testBit i).toNat) n
  | 0, N, h => by
    have : N = 0 := by simpa using h
    rw [this]; rfl
  | n + 1, N, h => by
    rw [dig_s]
    have h1 := dig_bits n (N / 2) (by rw [Nat.pow_succ] at h; omega)
    have e : (fun i => (N.testBit (i + 1)).toNat) = fun i => ((N / 2).testBit i).toNat := by
      funext i
      rw [Nat.testBit_add_one]
    rw [e, ← h1, Nat.testBit_zero]
    rcases Nat.mod_two_eq_zero_or_one N with q | q
    · simp [q]; omega
    · simp [q]; omega
theorem m5 : dig (2 ^ 1 * 2 ^ 1) (fun _ => 2 ^ 1 - 1) 32 = 6148914691236517205 := by decide +kernel
theorem m3 : dig (2 ^ 2 * 2 ^ 2) (fun _ => 2 ^ 2 - 1) 16 = 3689348814741910323 := by decide +kernel
theorem mf : dig (2 ^ 4 * 2 ^ 4) (fun _ => 2 ^ 4 - 1) 8 = 1085102592571150095 := by decide +kernel
/-- the five steps, over a number -/
theorem pop_nat (N : Nat) (b : Nat → Nat) (hb : ∀ i, b i ≤ 1) (hN : N = dig 2 b 64) :
    let N1 := N - ((N / 2) &&& 6148914691236517205)
    let N2 := (N1 &&& 3689348814741910323) + ((N1 / 4) &&& 3689348814741910323)
    let N3 := (N2 + N2 / 16) &&& 1085102592571150095
    let N4 := N3 + N3 / 256
    let N5 := N4 + N4 / 65536
    let N6 := N5 + N5 / 4294967296
    ((N / 2) &&& 6148914691236517205) ≤ N ∧ N < 2 ^ 64 ∧ N1 < 2 ^ 64 ∧ N2 < 2 ^ 64 ∧ N2 + N2 / 16 < 2 ^ 64 ∧ N3 < 2 ^ 60 ∧ N4 < 2 ^ 61 ∧ N5 < 2 ^ 62 ∧ N6 < 2 ^ 63 ∧ N6 % 128 = fb_sm b 64 := by
  intro N1 N2 N3 N4 N5 N6
  have k1 : (N / 2) &&& 6148914691236517205 = dig 4 (fun i => b (2 * i + 1)) 32 := by
    have := dig_mask1 1 31 b (fun i _ => by have := hb i; omega)
    rw [m5] at this
    rw [hN]
    exact this
  have k0 : N = dig 4 (fun i => b (2 * i) + 2 * b (2 * i + 1)) 32 := by rw [hN]; exact dig_two 2 32 b
  have k2 : N = dig 4 (fun i => b (2 * i) + b (2 * i + 1)) 32 + dig 4 (fun i => b (2 * i + 1)) 32 := by
    rw [k0, ← dig_add]
    exact dig_cg _ _ _ _ (fun i _ => by omega)
  have hN1 : N1 = dig 4 (fun i => b (2 * i) + b (2 * i + 1)) 32 := by
    show N - ((N / 2) &&& 6148914691236517205) = _
    rw [k1, k2]; omega
  generalize hc : (fun i => b (2 * i) + b (2 * i + 1)) = c at hN1
  have cb : ∀ i, c i ≤ 2 := fun i => by rw [← hc]; have := hb (2 * i); have := hb (2 * i + 1); show b (2 * i) + b (2 * i + 1) ≤ 2; omega
  have q1 : N1 &&& 3689348814741910323 = dig 16 (fun i => c (2 * i)) 16 := by
    have := dig_mask 2 16 c (fun i _ => by have := cb i; omega)
    rw [m3] at this
    rw [hN1]
    exact this
  have q2 : N1 / 4 &&& 3689348814741910323 = dig 16 (fun i => c (2 * i + 1)) 16 := by
    have := dig_mask1 2 15 c (fun i _ => by have := cb i; omega)
    rw [m3] at this
    rw [hN1]
    exact this
  have hN2 : N2 = dig 16 (fun i => c (2 * i) + c (2 * i + 1)) 16 := by
    show (N1 &&& 3689348814741910323) + ((N1 / 4) &&& 3689348814741910323) = _
    rw [q1, q2, dig_add]
  generalize hd : (fun i => c (2 * i) + c (2 * i + 1)) = d at hN2
  have db : ∀ i, d i ≤ 4 := fun i => by rw [← hd]; have := cb (2 * i); have := cb (2 * i + 1); show c (2 * i) + c (2 * i + 1) ≤ 4; omega
  have q3 : N2 / 16 = dig 16 (fun i => if i < 15 then d (i + 1) else 0) 16 := by
    rw [hN2, dig_div 16 (by decide) 15 d (by have := db 0; omega), dig_top 16 15 _ (if_neg (by omega))]
    exact dig_cg _ _ _ _ (fun i hi => (if_pos hi).symm)
  have q4 : N2 + N2 / 16 = dig 16 (fun i => d i + (if i < 15 then d (i + 1) else 0)) 16 := by rw [q3, hN2, dig_add]
  have eb : ∀ i, d i + (if i < 15 then d (i + 1) else 0) ≤ 8 := fun i => by
    have := db i
    have := db (i + 1)
    split <;> omega
  have hN3 : N3 = dig 256 (fun i => d (2 * i) + d (2 * i + 1)) 8 := by
    have := dig_mask 4 8 (fun i => d i + (if i < 15 then d (i + 1) else 0)) (fun i _ => by have := eb i; show d i + (if i < 15 then d (i + 1) else 0) < 16; omega)
    rw [mf] at this
    show (N2 + N2 / 16) &&& 1085102592571150095 = _
    rw [q4]
    refine this.trans (dig_cg _ _ _ _ (fun i hi => ?_))
    show d (2 * i) + (if 2 * i < 15 then d (2 * i + 1) else 0) = _
    rw [if_pos (by omega)]
  generalize he : (fun i => d (2 * i) + d (2 * i + 1)) = e at hN3
  have ee : ∀ i, e i ≤ 8 := fun i => by rw [← he]; have := db (2 * i); have := db (2 * i + 1); show d (2 * i) + d (2 * i + 1) ≤ 8; omega
  have x1 : N1 < 2 ^ 64 := by
    have := dig_lt 4 (by decide) 32 c (fun i _ => by have := cb i; omega)
    rw [← hN1] at this
    exact this
  have x2 : N2 < 2 ^ 64 := by
    have := dig_lt 16 (by decide) 16 d (fun i _ => by have := db i; omega)
    rw [← hN2] at this
    exact this
  have x3 : N2 + N2 / 16 < 2 ^ 64 := by
    have := dig_lt 16 (by decide) 16 (fun i => d i + (if i < 15 then d (i + 1) else 0)) (fun i _ => by have := eb i; show d i + (if i < 15 then d (i + 1) else 0) < 16; omega)
    rw [← q4] at this
    exact this
  have x0 : N < 2 ^ 64 := by
    have := dig_lt 2 (by decide) 64 b (fun i _ => by have := hb i; omega)
    rw [← hN] at this
    exact this
  have y : fb_sm b 64 = e 0 + e 1 + e 2 + e 3 + e 4 + e 5 + e 6 + e 7 := by
    rw [← he, ← hd, ← hc]
    simp only [fb_sm, Nat.zero_add]
    omega
  have z : N3 = e 0 + 256 * (e 1 + 256 * (e 2 + 256 * (e 3 + 256 * (e 4 + 256 * (e 5 + 256 * (e 6 + 256 * e 7)))))) := by
    rw [hN3]
    simp only [dig, Nat.zero_add, Nat.mul_zero, Nat.add_zero]
  have f0 := ee 0
  have f1 := ee 1
  have f2 := ee 2
  have f3 := ee 3
  have f4 := ee 4
  have f5 := ee 5
  have f6 := ee 6
  have f7 := ee 7
  have z4 : N4 = (e 0 + e 1) + 256 * ((e 1 + e 2) + 256 * ((e 2 + e 3) + 256 * ((e 3 + e 4) + 256 * ((e 4 + e 5) + 256 * ((e 5 + e 6) + 256 * ((e 6 + e 7) + 256 * e 7)))))) := by
    show N3 + N3 / 256 = _
    omega
  have z5 : N5 = (e 0 + e 1 + e 2 + e 3) + 256 * ((e 1 + e 2 + e 3 + e 4) + 256 * ((e 2 + e 3 + e 4 + e 5) + 256 * ((e 3 + e 4 + e 5 + e 6) + 256 * ((e 4 + e 5 + e 6 + e 7) + 256 * ((e 5 + e 6 + e 7) + 256 * ((e 6 + e 7) + 256 * e 7)))))) := by
    show N4 + N4 / 65536 = _
    omega
  have z6 : N6 = (e 0 + e 1 + e 2 + e 3 + e 4 + e 5 + e 6 + e 7) + 256 * ((e 1 + e 2 + e 3 + e 4 + e 5 + e 6 + e 7) + 256 * ((e 2 + e 3 + e 4 + e 5 + e 6 + e 7) + 256 * ((e 3 + e 4 + e 5 + e 6 + e 7) + 256 * ((e 4 + e 5 + e 6 + e 7) + 256 * ((e 5 + e 6 + e 7) + 256 * ((e 6 + e 7) + 256 * e 7)))))) := by
    show N5 + N5 / 4294967296 = _
    omega
  refine ⟨by rw [k1]; omega, x0, x1, x2, x3, by omega, by omega, by omega, by omega, by rw [y]; omega⟩
theorem sm_ct (p : Nat → Bool) : ∀ n, fb_sm (fun i => (p i).toNat) n = fb_ct p n
  | 0 => rfl
  | n + 1 => by
    show fb_sm _ n + (p n).toNat = fb_ct p n + _
    rw [sm_ct p n]
    cases p n <;> rfl
theorem bitCount_eq (σ : St) (x : Int64) : c_J13_bitCount_95d88 σ x = some (nI (fb_ct (lb x) 64)) := by
  obtain ⟨N, hN, rfl⟩ := wb_of x
  have hb : ∀ i, lb (lN N) i = N.testBit i := fun i => by
    unfold lb
    rw [← BitVec.testBit_toNat, wb_tn hN]
  have hs := pop_nat N (fun i => (N.testBit i).toNat) (fun i => by cases N.testBit i <;> decide) (dig_bits 64 N hN)
  obtain ⟨a0, a1, a2, a3, a4, a5, a6, a7, a8, a9⟩ := hs
  rw [sm_ct] at a9
  have u1 : ∀ n, n < 2 ^ 64 → ((lN n).toUInt64 >>> ((1 : Int32).toInt64.toUInt64 &&& Int64.toUInt64 63)).toInt64 = lN (n / 2) := fun n h => wb_shr (k := 1) h (by decide)
  have u2 : ∀ n, n < 2 ^ 64 → ((lN n).toUInt64 >>> ((2 : Int32).toInt64.toUInt64 &&& Int64.toUInt64 63)).toInt64 = lN (n / 4) := fun n h => wb_shr (k := 2) h (by decide)
  have u4 : ∀ n, n < 2 ^ 64 → ((lN n).toUInt64 >>> ((4 : Int32).toInt64.toUInt64 &&& Int64.toUInt64 63)).toInt64 = lN (n / 16) := fun n h => wb_shr (k := 4) h (by decide)
  have u8 : ∀ n, n < 2 ^ 64 → ((lN n).toUInt64 >>> ((8 : Int32).toInt64.toUInt64 &&& Int64.toUInt64 63)).toInt64 = lN (n / 256) := fun n h => wb_shr (k := 8) h (by decide)
  have u16 : ∀ n, n < 2 ^ 64 → ((lN n).toUInt64 >>> ((16 : Int32).toInt64.toUInt64 &&& Int64.toUInt64 63)).toInt64 = lN (n / 65536) := fun n h => wb_shr (k := 16) h (by decide)
  have u32 : ∀ n, n < 2 ^ 64 → ((lN n).toUInt64 >>> ((32 : Int32).toInt64.toUInt64 &&& Int64.toUInt64 63)).toInt64 = lN (n / 4294967296) := fun n h => wb_shr (k := 32) h (by decide)
  have w5 : ∀ n, n < 2 ^ 64 → lN n &&& (6148914691236517205 : Int64) = lN (n &&& 6148914691236517205) := fun n h => wb_and (b := 6148914691236517205) h (by decide)
  have w3 : ∀ n, n < 2 ^ 64 → lN n &&& (3689348814741910323 : Int64) = lN (n &&& 3689348814741910323) := fun n h => wb_and (b := 3689348814741910323) h (by decide)
  have wf : ∀ n, n < 2 ^ 64 → lN n &&& (1085102592571150095 : Int64) = lN (n &&& 1085102592571150095) := fun n h => wb_and (b := 1085102592571150095) h (by decide)
  unfold c_J13_bitCount_95d88
  have e1 : lN N - (((lN N).toUInt64 >>> ((1 : Int32).toInt64.toUInt64 &&& Int64.toUInt64 63)).toInt64 &&& (6148914691236517205 : Int64)) = lN (N - ((N / 2) &&& 6148914691236517205)) := by
    rw [u1 N hN, w5 _ (by omega), lN_sub a0]
  rw [e1]
  generalize N - ((N / 2) &&& 6148914691236517205) = N1 at a2 a3 a4 a5 a6 a7 a8 a9 ⊢
  have e2 : (lN N1 &&& (3689348814741910323 : Int64)) + (((lN N1).toUInt64 >>> ((2 : Int32).toInt64.toUInt64 &&& Int64.toUInt64 63)).toInt64 &&& (3689348814741910323 : Int64)) = lN ((N1 &&& 3689348814741910323) + ((N1 / 4) &&& 3689348814741910323)) := by
    rw [u2 N1 a2, w3 _ a2, w3 _ (by omega), lN_add]
  rw [e2]
  generalize (N1 &&& 3689348814741910323) + ((N1 / 4) &&& 3689348814741910323) = N2 at a3 a4 a5 a6 a7 a8 a9 ⊢
  have e3 : (lN N2 + ((lN N2).toUInt64 >>> ((4 : Int32).toInt64.toUInt64 &&& Int64.toUInt64 63)).toInt64) &&& (1085102592571150095 : Int64) = lN ((N2 + N2 / 16) &&& 1085102592571150095) := by
    rw [u4 N2 a3, lN_add, wf _ a4]
  rw [e3]
  generalize (N2 + N2 / 16) &&& 1085102592571150095 = N3 at a5 a6 a7 a8 a9 ⊢
  have e4 : lN N3 + ((lN N3).toUInt64 >>> ((8 : Int32).toInt64.toUInt64 &&& Int64.toUInt64 63)).toInt64 = lN (N3 + N3 / 256) := by rw [u8 N3 (by omega), lN_add]
  rw [e4]
  generalize N3 + N3 / 256 = N4 at a6 a7 a8 a9 ⊢
  have e5 : lN N4 + ((lN N4).toUInt64 >>> ((16 : Int32).toInt64.toUInt64 &&& Int64.toUInt64 63)).toInt64 = lN (N4 + N4 / 65536) := by rw [u16 N4 (by omega), lN_add]
  rw [e5]
  generalize N4 + N4 / 65536 = N5 at a7 a8 a9 ⊢
  have e6 : lN N5 + ((lN N5).toUInt64 >>> ((32 : Int32).toInt64.toUInt64 &&& Int64.toUInt64 63)).toInt64 = lN (N5 + N5 / 4294967296) := by rw [u32 N5 (by omega), lN_add]
  rw [e6, lN_i, pk_and (nI (N5 + N5 / 4294967296)) 7 (by decide)]
  have t : (nI (N5 + N5 / 4294967296)).toBitVec.toNat = (N5 + N5 / 4294967296) % 2 ^ 32 := by
    show (BitVec.ofNat 32 _).toNat = _
    exact BitVec.toNat_ofNat _ _
  rw [t, show (N5 + N5 / 4294967296) % 2 ^ 32 % 2 ^ 7 = (N5 + N5 / 4294967296) % 128 by omega, a9]
  congr 2
  exact fb_ct_cong fun i _ => (hb i).symm
