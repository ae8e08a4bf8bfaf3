set_option maxRecDepth 100000 in
def c_J13_bitCount_95d88 (σ : St) (a0 : Int64) : Option (Int32) :=
  some ((((((((((a0 - (((a0).toUInt64 >>> (((1 : Int32)).toInt64.toUInt64 &&& Int64.toUInt64 63)).toInt64 &&& (6148914691236517205 : Int64))) &&& (3689348814741910323 : Int64)) + ((((a0 - (((a0).toUInt64 >>> (((1 : Int32)).toInt64.toUInt64 &&& Int64.toUInt64 63)).toInt64 &&& (6148914691236517205 : Int64)))).toUInt64 >>> (((2 : Int32)).toInt64.toUInt64 &&& Int64.toUInt64 63)).toInt64 &&& (3689348814741910323 : Int64))) + (((((a0 - (((a0).toUInt64 >>> (((1 : Int32)).toInt64.toUInt64 &&& Int64.toUInt64 63)).toInt64 &&& (6148914691236517205 : Int64))) &&& (3689348814741910323 : Int64)) + ((((a0 - (((a0).toUInt64 >>> (((1 : Int32)).toInt64.toUInt64 &&& Int64.toUInt64 63)).toInt64 &&& (6148914691236517205 : Int64)))).toUInt64 >>> (((2 : Int32)).toInt64.toUInt64 &&& Int64.toUInt64 63)).toInt64 &&& (3689348814741910323 : Int64)))).toUInt64 >>> (((4 : Int32)).toInt64.toUInt64 &&& Int64.toUInt64 63)).toInt64) &&& (1085102592571150095 : Int64)) + (((((((a0 - (((a0).toUInt64 >>> (((1 : Int32)).toInt64.toUInt64 &&& Int64.toUInt64 63)).toInt64 &&& (6148914691236517205 : Int64))) &&& (3689348814741910323 : Int64)) + ((((a0 - (((a0).toUInt64 >>> (((1 : Int32)).toInt64.toUInt64 &&& Int64.toUInt64 63)).toInt64 &&& (6148914691236517205 : Int64)))).toUInt64 >>> (((2 : Int32)).toInt64.toUInt64 &&& Int64.toUInt64 63)).toInt64 &&& (3689348814741910323 : Int64))) + (((((a0 - (((a0).toUInt64 >>> (((1 : Int32)).toInt64.toUInt64 &&& Int64.toUInt64 63)).toInt64 &&& (6148914691236517205 : Int64))) &&& (3689348814741910323 : Int64)) + ((((a0 - (((a0).toUInt64 >>> (((1 : Int32)).toInt64.toUInt64 &&& Int64.toUInt64 63)).toInt64 &&& (6148914691236517205 : Int64)))).toUInt64 >>> (((2 : Int32)).toInt64.toUInt64 &&& Int64.toUInt64 63)).toInt64 &&& (3689348814741910323 : Int64)))).toUInt64 >>> (((4 : Int32)).toInt64.toUInt64 &&& Int64.toUInt64 63)).toInt64) &&& (1085102592571150095 : Int64))).toUInt64 >>> (((8 : Int32)).toInt64.toUInt64 &&& Int64.toUInt64 63)).toInt64) + ((((((((a0 - (((a0).toUInt64 >>> (((1 : Int32)).toInt64.toUInt64 &&& Int64.toUInt64 63)).toInt64 &&& (6148914691236517205 : Int64))) &&& (3689348814741910323 : Int64)) + ((((a0 - (((a0).toUInt64 >>> (((1 : Int32)).toInt64.toUInt64 &&& Int64.toUInt64 63)).toInt64 &&& (6148914691236517205 : Int64)))).toUInt64 >>> (((2 : Int32)).toInt64.toUInt64 &&& Int64.toUInt64 63)).toInt64 &&& (3689348814741910323 : Int64))) + (((((a0 - (((a0).toUInt64 >>> (((1 : Int32)).toInt64.toUInt64 &&& Int64.toUInt64 63)).toInt64 &&& (6148914691236517205 : Int64))) &&& (3689348814741910323 : Int64)) + ((((a0 - (((a0).toUInt64 >>> (((1 : Int32)).toInt64.toUInt64 &&& Int64.toUInt64 63)).toInt64 &&& (6148914691236517205 : Int64)))).toUInt64 >>> (((2 : Int32)).toInt64.toUInt64 &&& Int64.toUInt64 63)).toInt64 &&& (3689348814741910323 : Int64)))).toUInt64 >>> (((4 : Int32)).toInt64.toUInt64 &&& Int64.toUInt64 63)).toInt64) &&& (1085102592571150095 : Int64)) + (((((((a0 - (((a0).toUInt64 >>> (((1 : Int32)).toInt64.toUInt64 &&& Int64.toUInt64 63)).toInt64 &&& (6148914691236517205 : Int64))) &&& (3689348814741910323 : Int64)) + ((((a0 - (((a0).toUInt64 >>> (((1 : Int32)).toInt64.toUInt64 &&& Int64.toUInt64 63)).toInt64 &&& (6148914691236517205 : Int64)))).toUInt64 >>> (((2 : Int32)).toInt64.toUInt64 &&& Int64.toUInt64 63)).toInt64 &&& (3689348814741910323 : Int64))) + (((((a0 - (((a0).toUInt64 >>> (((1 : Int32)).toInt64.toUInt64 &&& Int64.toUInt64 63)).toInt64 &&& (6148914691236517205 : Int64))) &&& (3689348814741910323 : Int64)) + ((((a0 - (((a0).toUInt64 >>> (((1 : Int32)).toInt64.toUInt64 &&& Int64.toUInt64 63)).toInt64 &&& (6148914691236517205 : Int64)))).toUInt64 >>> (((2 : Int32)).toInt64.toUInt64 &&& Int64.toUInt64 63)).toInt64 &&& (3689348814741910323 : Int64)))).toUInt64 >>> (((4 : Int32)).toInt64.toUInt64 &&& Int64.toUInt64 63)).toInt64) &&& (1085102592571150095 : Int64))).toUInt64 >>> (((8 : Int32)).toInt64.toUInt64 &&& Int64.toUInt64 63)).toInt64)).toUInt64 >>> (((16 : Int32)).toInt64.toUInt64 &&& Int64.toUInt64 63)).toInt64) + (((((((((a0 - (((a0).toUInt64 >>> (((1 : Int32)).toInt64.toUInt64 &&& Int64.toUInt64 63)).toInt64 &&& (6148914691236517205 : Int64))) &&& (3689348814741910323 : Int64)) + ((((a0 - (((a0).toUInt64 >>> (((1 : Int32)).toInt64.toUInt64 &&& Int64.toUInt64 63)).toInt64 &&& (6148914691236517205 : Int64)))).toUInt64 >>> (((2 : Int32)).toInt64.toUInt64 &&& Int64.toUInt64 63)).toInt64 &&& (3689348814741910323 : Int64))) + (((((a0 - (((a0).toUInt64 >>> (((1 : Int32)).toInt64.toUInt64 &&& Int64.toUInt64 63)).toInt64 &&& (6148914691236517205 : Int64))) &&& (3689348814741910323 : Int64)) + ((((a0 - (((a0).toUInt64 >>> (((1 : Int32)).toInt64.toUInt64 &&& Int64.toUInt64 63)).toInt64 &&& (6148914691236517205 : Int64)))).toUInt64 >>> (((2 : Int32)).toInt64.toUInt64 &&& Int64.toUInt64 63)).toInt64 &&& (3689348814741910323 : Int64)))).toUInt64 >>> (((4 : Int32)).toInt64.toUInt64 &&& Int64.toUInt64 63)).toInt64) &&& (1085102592571150095 : Int64)) + (((((((a0 - (((a0).toUInt64 >>> (((1 : Int32)).toInt64.toUInt64 &&& Int64.toUInt64 63)).toInt64 &&& (6148914691236517205 : Int64))) &&& (3689348814741910323 : Int64)) + ((((a0 - (((a0).toUInt64 >>> (((1 : Int32)).toInt64.toUInt64 &&& Int64.toUInt64 63)).toInt64 &&& (6148914691236517205 : Int64)))).toUInt64 >>> (((2 : Int32)).toInt64.toUInt64 &&& Int64.toUInt64 63)).toInt64 &&& (3689348814741910323 : Int64))) + (((((a0 - (((a0).toUInt64 >>> (((1 : Int32)).toInt64.toUInt64 &&& Int64.toUInt64 63)).toInt64 &&& (6148914691236517205 : Int64))) &&& (3689348814741910323 : Int64)) + ((((a0 - (((a0).toUInt64 >>> (((1 : Int32)).toInt64.toUInt64 &&& Int64.toUInt64 63)).toInt64 &&& (6148914691236517205 : Int64)))).toUInt64 >>> (((2 : Int32)).toInt64.toUInt64 &&& Int64.toUInt64 63)).toInt64 &&& (3689348814741910323 : Int64)))).toUInt64 >>> (((4 : Int32)).toInt64.toUInt64 &&& Int64.toUInt64 63)).toInt64) &&& (1085102592571150095 : Int64))).toUInt64 >>> (((8 : Int32)).toInt64.toUInt64 &&& Int64.toUInt64 63)).toInt64) + ((((((((a0 - (((a0).toUInt64 >>> (((1 : Int32)).toInt64.toUInt64 &&& Int64.toUInt64 63)).toInt64 &&& (6148914691236517205 : Int64))) &&& (3689348814741910323 : Int64)) + ((((a0 - (((a0).toUInt64 >>> (((1 : Int32)).toInt64.toUInt64 &&& Int64.toUInt64 63)).toInt64 &&& (6148914691236517205 : Int64)))).toUInt64 >>> (((2 : Int32)).toInt64.toUInt64 &&& Int64.toUInt64 63)).toInt64 &&& (3689348814741910323 : Int64))) + (((((a0 - (((a0).toUInt64 >>> (((1 : Int32)).toInt64.toUInt64 &&& Int64.toUInt64 63)).toInt64 &&& (6148914691236517205 : Int64))) &&& (3689348814741910323 : Int64)) + ((((a0 - (((a0).toUInt64 >>> (((1 : Int32)).toInt64.toUInt64 &&& Int64.toUInt64 63)).toInt64 &&& (6148914691236517205 : Int64)))).toUInt64 >>> (((2 : Int32)).toInt64.toUInt64 &&& Int64.toUInt64 63)).toInt64 &&& (3689348814741910323 : Int64)))).toUInt64 >>> (((4 : Int32)).toInt64.toUInt64 &&& Int64.toUInt64 63)).toInt64) &&& (1085102592571150095 : Int64)) + (((((((a0 - (((a0).toUInt64 >>> (((1 : Int32)).toInt64.toUInt64 &&& Int64.toUInt64 63)).toInt64 &&& (6148914691236517205 : Int64))) &&& (3689348814741910323 : Int64)) + ((((a0 - (((a0).toUInt64 >>> (((1 : Int32)).toInt64.toUInt64 &&& Int64.toUInt64 63)).toInt64 &&& (6148914691236517205 : Int64)))).toUInt64 >>> (((2 : Int32)).toInt64.toUInt64 &&& Int64.toUInt64 63)).toInt64 &&& (3689348814741910323 : Int64))) + (((((a0 - (((a0).toUInt64 >>> (((1 : Int32)).toInt64.toUInt64 &&& Int64.toUInt64 63)).toInt64 &&& (6148914691236517205 : Int64))) &&& (3689348814741910323 : Int64)) + ((((a0 - (((a0).toUInt64 >>> (((1 : Int32)).toInt64.toUInt64 &&& Int64.toUInt64 63)).toInt64 &&& (6148914691236517205 : Int64)))).toUInt64 >>> (((2 : Int32)).toInt64.toUInt64 &&& Int64.toUInt64 63)).toInt64 &&& (3689348814741910323 : Int64)))).toUInt64 >>> (((4 : Int32)).toInt64.toUInt64 &&& Int64.toUInt64 63)).toInt64) &&& (1085102592571150095 : Int64))).toUInt64 >>> (((8 : Int32)).toInt64.toUInt64 &&& Int64.toUInt64 63)).toInt64)).toUInt64 >>> (((16 : Int32)).toInt64.toUInt64 &&& Int64.toUInt64 63)).toInt64)).toUInt64 >>> (((32 : Int32)).toInt64.toUInt64 &&& Int64.toUInt64 63)).toInt64)).toInt32 &&& (127 : Int32))
set_option maxHeartbeats 4000000 in
set_option maxRecDepth 100000 in
theorem t_J13_bitCount_95d88 (l : Launch) (hnt : l.stackTraces = false) {E : Ev} {base : Nat} (hE : Adr YC E base) (σ : St) (a0 : Int64) (r : Int32) (h : c_J13_bitCount_95d88 σ a0 = some r) : Ctr l yJ13_bitCount_95d88 cJ13_bitCount_95d88 2 (some .int) 0 0 YC E base [.long a0] σ (.ok (some (.int r))) σ := by
  unfold c_J13_bitCount_95d88 at h
  refine ofV 0 (by decide +kernel) rfl hE hnt (Nat.le_of_ble_eq_true rfl) rfl (fun M hN K => ?_)
  refine v_lload0 (pc := 0) K dJ13_bitCount_95d88_0 ?_
  refine v_lload0 (pc := 1) K dJ13_bitCount_95d88_1 ?_
  refine v_ic1 (pc := 2) K dJ13_bitCount_95d88_2 ?_
  refine v_lushr (pc := 3) K dJ13_bitCount_95d88_3 ?_
  refine v_ldc2 (pc := 4) K dJ13_bitCount_95d88_4 cl_RJ13_314 ?_
  refine v_land (pc := 7) K dJ13_bitCount_95d88_7 ?_
  refine v_lsub (pc := 8) K dJ13_bitCount_95d88_8 ?_
  refine v_lstore0 (pc := 9) K dJ13_bitCount_95d88_9 (Nat.le_of_ble_eq_true rfl) ?_
  refine v_lload0 (pc := 10) K dJ13_bitCount_95d88_10 ?_
  refine v_ldc2 (pc := 11) K dJ13_bitCount_95d88_11 cl_RJ13_316 ?_
  refine v_land (pc := 14) K dJ13_bitCount_95d88_14 ?_
  refine v_lload0 (pc := 15) K dJ13_bitCount_95d88_15 ?_
  refine v_ic2 (pc := 16) K dJ13_bitCount_95d88_16 ?_
  refine v_lushr (pc := 17) K dJ13_bitCount_95d88_17 ?_
  refine v_ldc2 (pc := 18) K dJ13_bitCount_95d88_18 cl_RJ13_316 ?_
  refine v_land (pc := 21) K dJ13_bitCount_95d88_21 ?_
  refine v_ladd (pc := 22) K dJ13_bitCount_95d88_22 ?_
  refine v_lstore0 (pc := 23) K dJ13_bitCount_95d88_23 (Nat.le_of_ble_eq_true rfl) ?_
  refine v_lload0 (pc := 24) K dJ13_bitCount_95d88_24 ?_
  refine v_lload0 (pc := 25) K dJ13_bitCount_95d88_25 ?_
  refine v_ic4 (pc := 26) K dJ13_bitCount_95d88_26 ?_
  refine v_lushr (pc := 27) K dJ13_bitCount_95d88_27 ?_
  refine v_ladd (pc := 28) K dJ13_bitCount_95d88_28 ?_
  refine v_ldc2 (pc := 29) K dJ13_bitCount_95d88_29 cl_RJ13_318 ?_
  refine v_land (pc := 32) K dJ13_bitCount_95d88_32 ?_
  refine v_lstore0 (pc := 33) K dJ13_bitCount_95d88_33 (Nat.le_of_ble_eq_true rfl) ?_
  refine v_lload0 (pc := 34) K dJ13_bitCount_95d88_34 ?_
  refine v_lload0 (pc := 35) K dJ13_bitCount_95d88_35 ?_
  refine v_bipush (pc := 36) (v := 8) K dJ13_bitCount_95d88_36 (by decide) ?_
  refine v_lushr (pc := 38) K dJ13_bitCount_95d88_38 ?_
  refine v_ladd (pc := 39) K dJ13_bitCount_95d88_39 ?_
  refine v_lstore0 (pc := 40) K dJ13_bitCount_95d88_40 (Nat.le_of_ble_eq_true rfl) ?_
  refine v_lload0 (pc := 41) K dJ13_bitCount_95d88_41 ?_
  refine v_lload0 (pc := 42) K dJ13_bitCount_95d88_42 ?_
  refine v_bipush (pc := 43) (v := 16) K dJ13_bitCount_95d88_43 (by decide) ?_
  refine v_lushr (pc := 45) K dJ13_bitCount_95d88_45 ?_
  refine v_ladd (pc := 46) K dJ13_bitCount_95d88_46 ?_
  refine v_lstore0 (pc := 47) K dJ13_bitCount_95d88_47 (Nat.le_of_ble_eq_true rfl) ?_
  refine v_lload0 (pc := 48) K dJ13_bitCount_95d88_48 ?_
  refine v_lload0 (pc := 49) K dJ13_bitCount_95d88_49 ?_
  refine v_bipush (pc := 50) (v := 32) K dJ13_bitCount_95d88_50 (by decide) ?_
  refine v_lushr (pc := 52) K dJ13_bitCount_95d88_52 ?_
  refine v_ladd (pc := 53) K dJ13_bitCount_95d88_53 ?_
  refine v_lstore0 (pc := 54) K dJ13_bitCount_95d88_54 (Nat.le_of_ble_eq_true rfl) ?_
  refine v_lload0 (pc := 55) K dJ13_bitCount_95d88_55 ?_
  refine v_l2i (pc := 56) K dJ13_bitCount_95d88_56 ?_
  refine v_bipush (pc := 57) (v := 127) K dJ13_bitCount_95d88_57 (by decide) ?_
  refine v_iand (pc := 59) K dJ13_bitCount_95d88_59 ?_
  cases h
  exact v_iret (pc := 60) K dJ13_bitCount_95d88_60 rfl rfl
set_option maxRecDepth 100000 in
def c_J9_min_7cf53 (σ : St) (a0 : Int32) (a1 : Int32) : Option (Int32) :=
  ((if a1 < a0 then some a1 else some a0).bind fun (t1 : Int32) => some t1)
set_option maxHeartbeats 4000000 in
set_option maxRecDepth 100000 in
theorem t_J9_min_7cf53 (l : Launch) (hnt : l.stackTraces = false) {E : Ev} {base : Nat} (hE : Adr YC E base) (σ : St) (a0 : Int32) (a1 : Int32) (r : Int32) (h : c_J9_min_7cf53 σ a0 a1 = some r) : Ctr l yJ9_min_7cf53 cJ9_min_7cf53 2 (some .int) 0 0 YC E base [.int a0, .int a1] σ (.ok (some (.int r))) σ := by
  unfold c_J9_min_7cf53 at h
  refine ofV 0 (by decide +kernel) rfl hE hnt (Nat.le_of_ble_eq_true rfl) rfl (fun M hN K => ?_)
  refine v_iload0 (pc := 0) K dJ9_min_7cf53_0 ?_
  refine v_iload1 (pc := 1) K dJ9_min_7cf53_1 ?_
  obtain ⟨t1, h3, h⟩ := bd h
  have hJ2 : V (mkX M YC E base 2 (.ok (some (.int r))) σ) σ 10 [none, none] [.int t1] := by
    cases h
    exact v_iret (pc := 10) K dJ9_min_7cf53_10 rfl rfl
  clear h
  have h := h3
  refine v_icmp_gt (pc := 2) (tgt := 9) K dJ9_min_7cf53_2 (by decide) (fun c4 => ?_) (fun c4 => ?_)
  · have h := it c4 h
    refine v_iload1 (pc := 9) K dJ9_min_7cf53_9 ?_
    cases h
    exact (v_fg [false, false] hJ2)
  · have h := ie c4 h
    refine v_iload0 (pc := 5) K dJ9_min_7cf53_5 ?_
    refine v_goto (pc := 6) (tgt := 10) K dJ9_min_7cf53_6 (by decide) ?_
    cases h
    exact (v_fg [false, false] hJ2)
set_option maxRecDepth 100000 in
def c_J9_max_7cf53 (σ : St) (a0 : Int32) (a1 : Int32) : Option (Int32) :=
  ((if a0 < a1 then some a1 else some a0).bind fun (t1 : Int32) => some t1)
set_option maxHeartbeats 4000000 in
set_option maxRecDepth 100000 in
theorem t_J9_max_7cf53 (l : Launch) (hnt : l.stackTraces = false) {E : Ev} {base : Nat} (hE : Adr YC E base) (σ : St) (a0 : Int32) (a1 : Int32) (r : Int32) (h : c_J9_max_7cf53 σ a0 a1 = some r) : Ctr l yJ9_max_7cf53 cJ9_max_7cf53 2 (some .int) 0 0 YC E base [.int a0, .int a1] σ (.ok (some (.int r))) σ := by
  unfold c_J9_max_7cf53 at h
  refine ofV 0 (by decide +kernel) rfl hE hnt (Nat.le_of_ble_eq_true rfl) rfl (fun M hN K => ?_)
  refine v_iload0 (pc := 0) K dJ9_max_7cf53_0 ?_
  refine v_iload1 (pc := 1) K dJ9_max_7cf53_1 ?_
  obtain ⟨t1, h3, h⟩ := bd h
  have hJ2 : V (mkX M YC E base 2 (.ok (some (.int r))) σ) σ 10 [none, none] [.int t1] := by
    cases h
    exact v_iret (pc := 10) K dJ9_max_7cf53_10 rfl rfl
  clear h
  have h := h3
  refine v_icmp_lt (pc := 2) (tgt := 9) K dJ9_max_7cf53_2 (by decide) (fun c4 => ?_) (fun c4 => ?_)
  · have h := it c4 h
    refine v_iload1 (pc := 9) K dJ9_max_7cf53_9 ?_
    cases h
    exact (v_fg [false, false] hJ2)
  · have h := ie c4 h
    refine v_iload0 (pc := 5) K dJ9_max_7cf53_5 ?_
    refine v_goto (pc := 6) (tgt := 10) K dJ9_max_7cf53_6 (by decide) ?_
    cases h
    exact (v_fg [false, false] hJ2)
set_option maxRecDepth 100000 in
def c_J9_floorDiv_f86c9 (σ : St) (a0 : Int64) (a1 : Int64) : Option (Int64) :=
  (if a1 = 0 then none else (if (0 : Int64) ≤ (a0 ^^^ a1) then some (a0 / a1) else (if ((a0 / a1) * a1) = a0 then some (a0 / a1) else some ((a0 / a1) - (1 : Int64)))))
set_option maxHeartbeats 4000000 in
set_option maxRecDepth 100000 in
theorem t_J9_floorDiv_f86c9 (l : Launch) (hnt : l.stackTraces = false) {E : Ev} {base : Nat} (hE : Adr YC E base) (σ : St) (a0 : Int64) (a1 : Int64) (r : Int64) (h : c_J9_floorDiv_f86c9 σ a0 a1 = some r) : Ctr l yJ9_floorDiv_f86c9 cJ9_floorDiv_f86c9 6 (some .long) 0 0 YC E base [.long a0, .long a1] σ (.ok (some (.long r))) σ := by
  unfold c_J9_floorDiv_f86c9 at h
  refine ofV 2 (by decide +kernel) rfl hE hnt (Nat.le_of_ble_eq_true rfl) rfl (fun M hN K => ?_)
  refine v_lload0 (pc := 0) K dJ9_floorDiv_f86c9_0 ?_
  refine v_lload2 (pc := 1) K dJ9_floorDiv_f86c9_1 ?_
  by_cases c1 : a1 = 0
  · cases (it c1 h)
  have h := ie c1 h
  refine v_ldiv (pc := 2) K dJ9_floorDiv_f86c9_2 c1 ?_
  refine v_lstore4 (pc := 3) K dJ9_floorDiv_f86c9_3 rfl (Nat.le_of_ble_eq_true rfl) ?_
  refine v_lload0 (pc := 5) K dJ9_floorDiv_f86c9_5 ?_
  refine v_lload2 (pc := 6) K dJ9_floorDiv_f86c9_6 ?_
  refine v_lxor (pc := 7) K dJ9_floorDiv_f86c9_7 ?_
  refine v_lc0 (pc := 8) K dJ9_floorDiv_f86c9_8 ?_
  refine v_lc_ge (pc := 9) (tgt := 27) K dJ9_floorDiv_f86c9_9 dJ9_floorDiv_f86c9_10 (by decide) (fun c2 => ?_) (fun c2 => ?_)
  · have h := it c2 h
    refine v_lload4 (pc := 27) K dJ9_floorDiv_f86c9_27 ?_
    cases h
    exact v_lret (pc := 29) K dJ9_floorDiv_f86c9_29 rfl rfl
  · have h := ie c2 h
    refine v_lload4 (pc := 13) K dJ9_floorDiv_f86c9_13 ?_
    refine v_lload2 (pc := 15) K dJ9_floorDiv_f86c9_15 ?_
    refine v_lmul (pc := 16) K dJ9_floorDiv_f86c9_16 ?_
    refine v_lload0 (pc := 17) K dJ9_floorDiv_f86c9_17 ?_
    refine v_lc_eq (pc := 18) (tgt := 27) K dJ9_floorDiv_f86c9_18 dJ9_floorDiv_f86c9_19 (by decide) (fun c3 => ?_) (fun c3 => ?_)
    · have h := it c3 h
      refine v_lload4 (pc := 27) K dJ9_floorDiv_f86c9_27 ?_
      cases h
      exact v_lret (pc := 29) K dJ9_floorDiv_f86c9_29 rfl rfl
    · have h := ie c3 h
      refine v_lload4 (pc := 22) K dJ9_floorDiv_f86c9_22 ?_
      refine v_lc1 (pc := 24) K dJ9_floorDiv_f86c9_24 ?_
      refine v_lsub (pc := 25) K dJ9_floorDiv_f86c9_25 ?_
      cases h
      exact v_lret (pc := 26) K dJ9_floorDiv_f86c9_26 rfl rfl
set_option maxRecDepth 100000 in
def c_J9_floorMod_f86c9 (σ : St) (a0 : Int64) (a1 : Int64) : Option (Int64) :=
  (if a1 = 0 then none else (if (0 : Int64) ≤ (a0 ^^^ a1) then some (a0 - a0 / a1 * a1) else (if (a0 - a0 / a1 * a1) = (0 : Int64) then some (a0 - a0 / a1 * a1) else some ((a0 - a0 / a1 * a1) + a1))))
set_option maxHeartbeats 4000000 in
set_option maxRecDepth 100000 in
theorem t_J9_floorMod_f86c9 (l : Launch) (hnt : l.stackTraces = false) {E : Ev} {base : Nat} (hE : Adr YC E base) (σ : St) (a0 : Int64) (a1 : Int64) (r : Int64) (h : c_J9_floorMod_f86c9 σ a0 a1 = some r) : Ctr l yJ9_floorMod_f86c9 cJ9_floorMod_f86c9 6 (some .long) 0 0 YC E base [.long a0, .long a1] σ (.ok (some (.long r))) σ := by
  unfold c_J9_floorMod_f86c9 at h
  refine ofV 2 (by decide +kernel) rfl hE hnt (Nat.le_of_ble_eq_true rfl) rfl (fun M hN K => ?_)
  refine v_lload0 (pc := 0) K dJ9_floorMod_f86c9_0 ?_
  refine v_lload2 (pc := 1) K dJ9_floorMod_f86c9_1 ?_
  by_cases c1 : a1 = 0
  · cases (it c1 h)
  have h := ie c1 h
  refine v_lrem (pc := 2) K dJ9_floorMod_f86c9_2 c1 ?_
  refine v_lstore4 (pc := 3) K dJ9_floorMod_f86c9_3 rfl (Nat.le_of_ble_eq_true rfl) ?_
  refine v_lload0 (pc := 5) K dJ9_floorMod_f86c9_5 ?_
  refine v_lload2 (pc := 6) K dJ9_floorMod_f86c9_6 ?_
  refine v_lxor (pc := 7) K dJ9_floorMod_f86c9_7 ?_
  refine v_lc0 (pc := 8) K dJ9_floorMod_f86c9_8 ?_
  refine v_lc_ge (pc := 9) (tgt := 25) K dJ9_floorMod_f86c9_9 dJ9_floorMod_f86c9_10 (by decide) (fun c2 => ?_) (fun c2 => ?_)
  · have h := it c2 h
    refine v_lload4 (pc := 25) K dJ9_floorMod_f86c9_25 ?_
    cases h
    exact v_lret (pc := 27) K dJ9_floorMod_f86c9_27 rfl rfl
  · have h := ie c2 h
    refine v_lload4 (pc := 13) K dJ9_floorMod_f86c9_13 ?_
    refine v_lc0 (pc := 15) K dJ9_floorMod_f86c9_15 ?_
    refine v_lc_eq (pc := 16) (tgt := 25) K dJ9_floorMod_f86c9_16 dJ9_floorMod_f86c9_17 (by decide) (fun c3 => ?_) (fun c3 => ?_)
    · have h := it c3 h
      refine v_lload4 (pc := 25) K dJ9_floorMod_f86c9_25 ?_
      cases h
      exact v_lret (pc := 27) K dJ9_floorMod_f86c9_27 rfl rfl
    · have h := ie c3 h
      refine v_lload4 (pc := 20) K dJ9_floorMod_f86c9_20 ?_
      refine v_lload2 (pc := 22) K dJ9_floorMod_f86c9_22 ?_
      refine v_ladd (pc := 23) K dJ9_floorMod_f86c9_23 ?_
      cases h
      exact v_lret (pc := 24) K dJ9_floorMod_f86c9_24 rfl rfl
set_option maxRecDepth 100000 in
def c_J9_abs_067f4 (σ : St) (a0 : Int64) : Option (Int64) :=
  ((if (0 : Int64) ≤ a0 then some a0 else some (-a0)).bind fun (t1 : Int64) => some t1)
set_option maxHeartbeats 4000000 in
set_option maxRecDepth 100000 in
theorem t_J9_abs_067f4 (l : Launch) (hnt : l.stackTraces = false) {E : Ev} {base : Nat} (hE : Adr YC E base) (σ : St) (a0 : Int64) (r : Int64) (h : c_J9_abs_067f4 σ a0 = some r) : Ctr l yJ9_abs_067f4 cJ9_abs_067f4 2 (some .long) 0 0 YC E base [.long a0] σ (.ok (some (.long r))) σ := by
  unfold c_J9_abs_067f4 at h
  refine ofV 0 (by decide +kernel) rfl hE hnt (Nat.le_of_ble_eq_true rfl) rfl (fun M hN K => ?_)
  refine v_lload0 (pc := 0) K dJ9_abs_067f4_0 ?_
  refine v_lc0 (pc := 1) K dJ9_abs_067f4_1 ?_
  obtain ⟨t1, h3, h⟩ := bd h
  have hJ2 : V (mkX M YC E base 2 (.ok (some (.long r))) σ) σ 12 [none, none] [.long t1] := by
    cases h
    exact v_lret (pc := 12) K dJ9_abs_067f4_12 rfl rfl
  clear h
  have h := h3
  refine v_lc_ge (pc := 2) (tgt := 11) K dJ9_abs_067f4_2 dJ9_abs_067f4_3 (by decide) (fun c4 => ?_) (fun c4 => ?_)
  · have h := it c4 h
    refine v_lload0 (pc := 11) K dJ9_abs_067f4_11 ?_
    cases h
    exact (v_fg [false, true] hJ2)
  · have h := ie c4 h
    refine v_lload0 (pc := 6) K dJ9_abs_067f4_6 ?_
    refine v_lneg (pc := 7) K dJ9_abs_067f4_7 ?_
    refine v_goto (pc := 8) (tgt := 12) K dJ9_abs_067f4_8 (by decide) ?_
    cases h
    exact (v_fg [false, true] hJ2)
set_option maxRecDepth 100000 in
def c_J9_min_f86c9 (σ : St) (a0 : Int64) (a1 : Int64) : Option (Int64) :=
  ((if a1 < a0 then some a1 else some a0).bind fun (t1 : Int64) => some t1)
set_option maxHeartbeats 4000000 in
set_option maxRecDepth 100000 in
theorem t_J9_min_f86c9 (l : Launch) (hnt : l.stackTraces = false) {E : Ev} {base : Nat} (hE : Adr YC E base) (σ : St) (a0 : Int64) (a1 : Int64) (r : Int64) (h : c_J9_min_f86c9 σ a0 a1 = some r) : Ctr l yJ9_min_f86c9 cJ9_min_f86c9 4 (some .long) 0 0 YC E base [.long a0, .long a1] σ (.ok (some (.long r))) σ := by
  unfold c_J9_min_f86c9 at h
  refine ofV 0 (by decide +kernel) rfl hE hnt (Nat.le_of_ble_eq_true rfl) rfl (fun M hN K => ?_)
  refine v_lload0 (pc := 0) K dJ9_min_f86c9_0 ?_
  refine v_lload2 (pc := 1) K dJ9_min_f86c9_1 ?_
  obtain ⟨t1, h3, h⟩ := bd h
  have hJ2 : V (mkX M YC E base 4 (.ok (some (.long r))) σ) σ 11 [none, none, none, none] [.long t1] := by
    cases h
    exact v_lret (pc := 11) K dJ9_min_f86c9_11 rfl rfl
  clear h
  have h := h3
  refine v_lc_gt (pc := 2) (tgt := 10) K dJ9_min_f86c9_2 dJ9_min_f86c9_3 (by decide) (fun c4 => ?_) (fun c4 => ?_)
  · have h := it c4 h
    refine v_lload2 (pc := 10) K dJ9_min_f86c9_10 ?_
    cases h
    exact (v_fg [false, true, false, true] hJ2)
  · have h := ie c4 h
    refine v_lload0 (pc := 6) K dJ9_min_f86c9_6 ?_
    refine v_goto (pc := 7) (tgt := 11) K dJ9_min_f86c9_7 (by decide) ?_
    cases h
    exact (v_fg [false, true, false, true] hJ2)
set_option maxRecDepth 100000 in
def c_J9_max_f86c9 (σ : St) (a0 : Int64) (a1 : Int64) : Option (Int64) :=
  ((if a0 < a1 then some a1 else some a0).bind fun (t1 : Int64) => some t1)
set_option maxHeartbeats 4000000 in
set_option maxRecDepth 100000 in
theorem t_J9_max_f86c9 (l : Launch) (hnt : l.stackTraces = false) {E : Ev} {base : Nat} (hE : Adr YC E base) (σ : St) (a0 : Int64) (a1 : Int64) (r : Int64) (h : c_J9_max_f86c9 σ a0 a1 = some r) : Ctr l yJ9_max_f86c9 cJ9_max_f86c9 4 (some .long) 0 0 YC E base [.long a0, .long a1] σ (.ok (some (.long r))) σ := by
  unfold c_J9_max_f86c9 at h
  refine ofV 0 (by decide +kernel) rfl hE hnt (Nat.le_of_ble_eq_true rfl) rfl (fun M hN K => ?_)
  refine v_lload0 (pc := 0) K dJ9_max_f86c9_0 ?_
  refine v_lload2 (pc := 1) K dJ9_max_f86c9_1 ?_
  obtain ⟨t1, h3, h⟩ := bd h
  have hJ2 : V (mkX M YC E base 4 (.ok (some (.long r))) σ) σ 11 [none, none, none, none] [.long t1] := by
    cases h
    exact v_lret (pc := 11) K dJ9_max_f86c9_11 rfl rfl
  clear h
  have h := h3
  refine v_lc_lt (pc := 2) (tgt := 10) K dJ9_max_f86c9_2 dJ9_max_f86c9_3 (by decide) (fun c4 => ?_) (fun c4 => ?_)
  · have h := it c4 h
    refine v_lload2 (pc := 10) K dJ9_max_f86c9_10 ?_
    cases h
    exact (v_fg [false, true, false, true] hJ2)
  · have h := ie c4 h
    refine v_lload0 (pc := 6) K dJ9_max_f86c9_6 ?_
    refine v_goto (pc := 7) (tgt := 11) K dJ9_max_f86c9_7 (by decide) ?_
    cases h
    exact (v_fg [false, true, false, true] hJ2)
set_option maxRecDepth 100000 in
def c_J9_abs_0f7a4 (σ : St) (a0 : Int32) : Option (Int32) :=
  ((if 0 ≤ a0 then some a0 else some (-a0)).bind fun (t1 : Int32) => some t1)
set_option maxHeartbeats 4000000 in
set_option maxRecDepth 100000 in
theorem t_J9_abs_0f7a4 (l : Launch) (hnt : l.stackTraces = false) {E : Ev} {base : Nat} (hE : Adr YC E base) (σ : St) (a0 : Int32) (r : Int32) (h : c_J9_abs_0f7a4 σ a0 = some r) : Ctr l yJ9_abs_0f7a4 cJ9_abs_0f7a4 1 (some .int) 0 0 YC E base [.int a0] σ (.ok (some (.int r))) σ := by
  unfold c_J9_abs_0f7a4 at h
  refine ofV 0 (by decide +kernel) rfl hE hnt (Nat.le_of_ble_eq_true rfl) rfl (fun M hN K => ?_)
  refine v_iload0 (pc := 0) K dJ9_abs_0f7a4_0 ?_
  obtain ⟨t1, h3, h⟩ := bd h
  have hJ2 : V (mkX M YC E base 1 (.ok (some (.int r))) σ) σ 10 [none] [.int t1] := by
    cases h
    exact v_iret (pc := 10) K dJ9_abs_0f7a4_10 rfl rfl
  clear h
  have h := h3
  refine v_if_ge (pc := 1) (tgt := 9) K dJ9_abs_0f7a4_1 (by decide) (fun c4 => ?_) (fun c4 => ?_)
  · have h := it c4 h
    refine v_iload0 (pc := 9) K dJ9_abs_0f7a4_9 ?_
    cases h
    exact (v_fg [false] hJ2)
  · have h := ie c4 h
    refine v_iload0 (pc := 4) K dJ9_abs_0f7a4_4 ?_
    refine v_ineg (pc := 5) K dJ9_abs_0f7a4_5 ?_
    refine v_goto (pc := 6) (tgt := 10) K dJ9_abs_0f7a4_6 (by decide) ?_
    cases h
    exact (v_fg [false] hJ2)
