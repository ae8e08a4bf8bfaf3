/-! ===== how many bits a long has ===== -/
def dig (B : Nat) : (Nat → Nat) → Nat → Nat
  | _, 0 => 0
  | d, n + 1 => d 0 + B * dig B (fun i => d (i + 1)) n
theorem dig_s (B : Nat) (d : Nat → Nat) (n : Nat) : dig B d (n + 1) = d 0 + B * dig B (fun i => d (i + 1)) n := rfl
theorem dig_add (B : Nat) : ∀ (n : Nat) (c d : Nat → Nat), dig B (fun i => c i + d i) n = dig B c n + dig B d n
  | 0, _, _ => rfl
  | n + 1, c, d => by
    rw [dig_s, dig_s, dig_s, dig_add B n (fun i => c (i + 1)) (fun i => d (i + 1)), Nat.mul_add]
    omega
theorem dig_two (B : Nat) : ∀ (n : Nat) (c : Nat → Nat), dig B c (2 * n) = dig (B * B) (fun i => c (2 * i) + B * c (2 * i + 1)) n
  | 0, _ => rfl
  | n + 1, c => by
    rw [show 2 * (n + 1) = 2 * n + 1 + 1 by omega, dig_s, dig_s, dig_s, dig_two B n (fun i => c (i + 1 + 1)), Nat.mul_add, Nat.mul_assoc B B]
    simp only [show ∀ i, 2 * (i + 1) = 2 * i + 1 + 1 from fun i => by omega]
    exact (Nat.add_assoc (c 0) (B * c 1) _).symm
/-- a digit less at the end, if it is 0 -/
theorem dig_top (B : Nat) : ∀ (n : Nat) (c : Nat → Nat), c n = 0 → dig B c (n + 1) = dig B c n
  | 0, c, h => by rw [dig_s, h]; rfl
  | n + 1, c, h => by rw [dig_s, dig_top B n (fun i => c (i + 1)) h, ← dig_s]
theorem dig_cg (B : Nat) : ∀ (n : Nat) (c d : Nat → Nat), (∀ i, i < n → c i = d i) → dig B c n = dig B d n
  | 0, _, _, _ => rfl
  | n + 1, c, d, h => by rw [dig_s, dig_s, h 0 (by omega), dig_cg B n _ (fun i => d (i + 1)) (fun i hi => h (i + 1) (by omega))]
theorem dig_lt (B : Nat) (hB : 0 < B) : ∀ (n : Nat) (c : Nat → Nat), (∀ i, i < n → c i < B) → dig B c n < B ^ n
  | 0, _, _ => by show 0 < B ^ 0; simp
  | n + 1, c, h => by
    rw [dig_s, Nat.pow_succ]
    have h1 := dig_lt B hB n (fun i => c (i + 1)) (fun i hi => h (i + 1) (by omega))
    have h2 := h 0 (by omega)
    have h3 : B * (dig B (fun i => c (i + 1)) n + 1) ≤ B * B ^ n := Nat.mul_le_mul_left B h1
    rw [Nat.mul_add] at h3
    rw [Nat.mul_comm (B ^ n) B]
    omega
theorem and_split (t a b x y : Nat) (ha : a < 2 ^ t) (hb : b < 2 ^ t) : (2 ^ t * x + a) &&& (2 ^ t * y + b) = 2 ^ t * (x &&& y) + (a &&& b) := by
  apply Nat.eq_of_testBit_eq
  intro j
  rw [Nat.testBit_and, Nat.testBit_two_pow_mul_add x ha, Nat.testBit_two_pow_mul_add y hb, Nat.testBit_two_pow_mul_add (x &&& y) (Nat.and_lt_two_pow a hb)]
  by_cases h : j < t
  · simp [h]
  · simp [h]
/-- every other digit -/
theorem dig_mask (t : Nat) : ∀ (n : Nat) (c : Nat → Nat), (∀ i, i < 2 * n → c i < 2 ^ t) → dig (2 ^ t) c (2 * n) &&& dig (2 ^ t * 2 ^ t) (fun _ => 2 ^ t - 1) n = dig (2 ^ t * 2 ^ t) (fun i => c (2 * i)) n
  | 0, _, _ => Nat.zero_and _
  | n + 1, c, h => by
    have h0 := h 0 (by omega)
    have h1 := h 1 (by omega)
    have hp : 0 < 2 ^ t := Nat.pow_pos (by decide)
    rw [show 2 * (n + 1) = 2 * n + 1 + 1 by omega, dig_s, dig_s, dig_s, dig_s]
    have e1 : c 0 + 2 ^ t * (c (0 + 1) + 2 ^ t * dig (2 ^ t) (fun i => c (i + 1 + 1)) (2 * n)) = 2 ^ (t + t) * dig (2 ^ t) (fun i => c (i + 1 + 1)) (2 * n) + (c 0 + 2 ^ t * c 1) := by
      rw [Nat.pow_add, Nat.mul_add, Nat.mul_assoc]
      show c 0 + (2 ^ t * c 1 + _) = _
      omega
    have e2 : 2 ^ t - 1 + 2 ^ t * 2 ^ t * dig (2 ^ t * 2 ^ t) (fun _ => 2 ^ t - 1) n = 2 ^ (t + t) * dig (2 ^ t * 2 ^ t) (fun _ => 2 ^ t - 1) n + (2 ^ t - 1) := by
      rw [Nat.pow_add]; omega
    have l1 : c 0 + 2 ^ t * c 1 < 2 ^ (t + t) := by
      rw [Nat.pow_add]
      have : 2 ^ t * (c 1 + 1) ≤ 2 ^ t * 2 ^ t := Nat.mul_le_mul_left _ h1
      rw [Nat.mul_add] at this
      omega
    have l2 : 2 ^ t - 1 < 2 ^ (t + t) := by
      have : 2 ^ t ≤ 2 ^ (t + t) := Nat.pow_le_pow_right (by decide) (by omega)
      omega
    rw [e1, e2, and_split (t + t) _ _ _ _ l1 l2, dig_mask t n (fun i => c (i + 1 + 1)) (fun i hi => h (i + 1 + 1) (by omega)), Nat.and_two_pow_sub_one_eq_mod, Nat.add_mul_mod_self_left, Nat.mod_eq_of_lt h0, ← Nat.pow_add]
    show _ = c (2 * 0) + _
    rw [Nat.add_comm]
    rfl
theorem dig_div (B : Nat) (hB : 0 < B) (n : Nat) (c : Nat → Nat) (h : c 0 < B) : dig B c (n + 1) / B = dig B (fun i => c (i + 1)) n := by
  rw [dig_s, Nat.add_mul_div_left _ _ hB, Nat.div_eq_of_lt h, Nat.zero_add]
/-- the others -/
theorem dig_mask1 (t : Nat) (n : Nat) (c : Nat → Nat) (h : ∀ i, i < 2 * (n + 1) → c i < 2 ^ t) : dig (2 ^ t) c (2 * (n + 1)) / 2 ^ t &&& dig (2 ^ t * 2 ^ t) (fun _ => 2 ^ t - 1) (n + 1) = dig (2 ^ t * 2 ^ t) (fun i => c (2 * i + 1)) (n + 1) := by
  have hp : 0 < 2 ^ t := Nat.pow_pos (by decide)
  rw [show 2 * (n + 1) = 2 * n + 1 + 1 by omega, dig_div _ hp _ _ (h 0 (by omega))]
  have e : dig (2 ^ t) (fun i => c (i + 1)) (2 * n + 1) = dig (2 ^ t) (fun i => if i < 2 * n + 1 then c (i + 1) else 0) (2 * (n + 1)) := by
    rw [show 2 * (n + 1) = 2 * n + 1 + 1 by omega, dig_top _ (2 * n + 1) _ (if_neg (by omega))]
    exact dig_cg _ _ _ _ (fun i hi => (if_pos hi).symm)
  rw [e, dig_mask t (n + 1) _ (fun i hi => by
    by_cases q : i < 2 * n + 1
    · rw [if_pos q]; exact h (i + 1) (by omega)
    · rw [if_neg q]; exact hp)]
  exact dig_cg _ _ _ _ (fun i hi => if_pos (by omega))
theorem dig_bits : ∀ (n N : Nat), N < 2 ^ n → N = dig 2 (fun i => (N.testBit i).toNat) n
  | 0, N, h => by
    have : N = 0 := by simpa using h
    rw [this]; rfl
  | n + 1, N, h => by
    rw [dig_s]
    have h1 := dig_bits n (N / 2) (by rw [Nat.pow_succ] at h; omega)
    have e : (fun i => (N.testBit (i + 1)).toNat) = fun i => ((N / 2).testBit i).toNat := by
      funext i
      rw [Nat.testBit_add_one]
    rw [e, ← h1, Nat.testBit_zero]
    rcases Nat.mod_two_eq_zero_or_one N with q | q
    · simp [q]; omega
    · simp [q]; omega
theorem m5 : dig (2 ^ 1 * 2 ^ 1) (fun _ => 2 ^ 1 - 1) 32 = 6148914691236517205 := by decide +kernel
theorem m3 : dig (2 ^ 2 * 2 ^ 2) (fun _ => 2 ^ 2 - 1) 16 = 3689348814741910323 := by decide +kernel
theorem mf : dig (2 ^ 4 * 2 ^ 4) (fun _ => 2 ^ 4 - 1) 8 = 1085102592571150095 := by decide +kernel
