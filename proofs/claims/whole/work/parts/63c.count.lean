theorem sm_ct (p : Nat → Bool) : ∀ n, fb_sm (fun i => (p i).toNat) n = fb_ct p n
  | 0 => rfl
  | n + 1 => by
    show fb_sm _ n + (p n).toNat = fb_ct p n + _
    rw [sm_ct p n]
    cases p n <;> rfl
theorem bitCount_eq (σ : St) (x : Int64) : c_J13_bitCount_95d88 σ x = some (nI (fb_ct (lb x) 64)) := by
  obtain ⟨N, hN, rfl⟩ := wb_of x
  have hb : ∀ i, lb (lN N) i = N.testBit i := fun i => by
    unfold lb
    rw [← BitVec.testBit_toNat, wb_tn hN]
  obtain ⟨a0, a2, a3, a4, a5, a6, a7, a8, a9⟩ := pop_nat (fun i => (N.testBit i).toNat) (fun i => by cases N.testBit i <;> decide) (dig_bits 64 N hN) rfl rfl rfl rfl rfl rfl
  rw [sm_ct] at a9
  have u1 : ∀ n, n < 2 ^ 64 → ((lN n).toUInt64 >>> ((1 : Int32).toInt64.toUInt64 &&& Int64.toUInt64 63)).toInt64 = lN (n / 2) := fun n h => wb_shr (k := 1) h (by decide)
  have u2 : ∀ n, n < 2 ^ 64 → ((lN n).toUInt64 >>> ((2 : Int32).toInt64.toUInt64 &&& Int64.toUInt64 63)).toInt64 = lN (n / 4) := fun n h => wb_shr (k := 2) h (by decide)
  have u4 : ∀ n, n < 2 ^ 64 → ((lN n).toUInt64 >>> ((4 : Int32).toInt64.toUInt64 &&& Int64.toUInt64 63)).toInt64 = lN (n / 16) := fun n h => wb_shr (k := 4) h (by decide)
  have u8 : ∀ n, n < 2 ^ 64 → ((lN n).toUInt64 >>> ((8 : Int32).toInt64.toUInt64 &&& Int64.toUInt64 63)).toInt64 = lN (n / 256) := fun n h => wb_shr (k := 8) h (by decide)
  have u16 : ∀ n, n < 2 ^ 64 → ((lN n).toUInt64 >>> ((16 : Int32).toInt64.toUInt64 &&& Int64.toUInt64 63)).toInt64 = lN (n / 65536) := fun n h => wb_shr (k := 16) h (by decide)
  have u32 : ∀ n, n < 2 ^ 64 → ((lN n).toUInt64 >>> ((32 : Int32).toInt64.toUInt64 &&& Int64.toUInt64 63)).toInt64 = lN (n / 4294967296) := fun n h => wb_shr (k := 32) h (by decide)
  have w5 : ∀ n, n < 2 ^ 64 → lN n &&& (6148914691236517205 : Int64) = lN (n &&& 6148914691236517205) := fun n h => wb_and (b := 6148914691236517205) h (by decide)
  have w3 : ∀ n, n < 2 ^ 64 → lN n &&& (3689348814741910323 : Int64) = lN (n &&& 3689348814741910323) := fun n h => wb_and (b := 3689348814741910323) h (by decide)
  have wf : ∀ n, n < 2 ^ 64 → lN n &&& (1085102592571150095 : Int64) = lN (n &&& 1085102592571150095) := fun n h => wb_and (b := 1085102592571150095) h (by decide)
  unfold c_J13_bitCount_95d88
  have e1 : lN N - (((lN N).toUInt64 >>> ((1 : Int32).toInt64.toUInt64 &&& Int64.toUInt64 63)).toInt64 &&& (6148914691236517205 : Int64)) = lN (N - ((N / 2) &&& 6148914691236517205)) := by
    rw [u1 N hN, w5 _ (by omega), lN_sub a0]
  rw [e1]
  generalize N - ((N / 2) &&& 6148914691236517205) = N1 at a2 a3 a4 a5 a6 a7 a8 a9 ⊢
  have e2 : (lN N1 &&& (3689348814741910323 : Int64)) + (((lN N1).toUInt64 >>> ((2 : Int32).toInt64.toUInt64 &&& Int64.toUInt64 63)).toInt64 &&& (3689348814741910323 : Int64)) = lN ((N1 &&& 3689348814741910323) + ((N1 / 4) &&& 3689348814741910323)) := by
    rw [u2 N1 a2, w3 _ a2, w3 _ (by omega), lN_add]
  rw [e2]
  generalize (N1 &&& 3689348814741910323) + ((N1 / 4) &&& 3689348814741910323) = N2 at a3 a4 a5 a6 a7 a8 a9 ⊢
  have e3 : (lN N2 + ((lN N2).toUInt64 >>> ((4 : Int32).toInt64.toUInt64 &&& Int64.toUInt64 63)).toInt64) &&& (1085102592571150095 : Int64) = lN ((N2 + N2 / 16) &&& 1085102592571150095) := by
    rw [u4 N2 a3, lN_add, wf _ a4]
  rw [e3]
  generalize (N2 + N2 / 16) &&& 1085102592571150095 = N3 at a5 a6 a7 a8 a9 ⊢
  have e4 : lN N3 + ((lN N3).toUInt64 >>> ((8 : Int32).toInt64.toUInt64 &&& Int64.toUInt64 63)).toInt64 = lN (N3 + N3 / 256) := by rw [u8 N3 (by omega), lN_add]
  rw [e4]
  generalize N3 + N3 / 256 = N4 at a6 a7 a8 a9 ⊢
  have e5 : lN N4 + ((lN N4).toUInt64 >>> ((16 : Int32).toInt64.toUInt64 &&& Int64.toUInt64 63)).toInt64 = lN (N4 + N4 / 65536) := by rw [u16 N4 (by omega), lN_add]
  rw [e5]
  generalize N4 + N4 / 65536 = N5 at a7 a8 a9 ⊢
  have e6 : lN N5 + ((lN N5).toUInt64 >>> ((32 : Int32).toInt64.toUInt64 &&& Int64.toUInt64 63)).toInt64 = lN (N5 + N5 / 4294967296) := by rw [u32 N5 (by omega), lN_add]
  rw [e6, lN_i, pk_and (nI (N5 + N5 / 4294967296)) 7 (by decide)]
  have t : (nI (N5 + N5 / 4294967296)).toBitVec.toNat = (N5 + N5 / 4294967296) % 2 ^ 32 := by
    show (BitVec.ofNat 32 _).toNat = _
    exact BitVec.toNat_ofNat _ _
  rw [t, show (N5 + N5 / 4294967296) % 2 ^ 32 % 2 ^ 7 = (N5 + N5 / 4294967296) % 128 by omega, a9]
  congr 2
  exact fb_ct_cong fun i _ => (hb i).symm
