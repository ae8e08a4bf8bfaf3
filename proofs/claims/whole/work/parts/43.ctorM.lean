def post_X4 (E : Ev) (o : Nat) (ws : va_W) : Prop := ∃ (q1 : Nat) (q2 : Nat) (q3 : Nat) (q4 : Nat) (q5 : Nat) (q6 : Nat) (q7 : Nat) (q8 : Nat) (q9 : Nat) (q10 : Nat) (q11 : Nat) (q12 : Nat) (q13 : Nat) (q14 : Nat) (q15 : Nat) (q16 : Nat) (q17 : Nat) (q18 : Nat) (q19 : Nat), ws = [((o, .inr (4, [.int 0, .ref q1, .ref q2, .ref q3, .ref q4, .int 0, .int 0, .int 0, .ref q5, .ref q6, .int 0, .ref q7, .ref q8, .ref q9, .int 0, .ref q10, .int 0, .ref q11, .ref q12, .ref q13, .ref q14, .ref q15, .ref q16, .ref q17, .ref q18, .ref q19])) : Nat × va_E), (q1, zL E 1152), (q2, zZ E 1152), (q3, zI E 6), (q4, zZ E 1536), (q5, zZ E 192), (q6, zL E 192), (q7, zL E 6), (q8, zL E 192), (q9, zZ E 192), (q10, zI E 192), (q11, zL E 192), (q12, zZ E 192), (q13, zL E 2304), (q14, zZ E 2304), (q15, zZ E 3072), (q16, zI E 12), (q17, zI E 2), (q18, zI E 2), (q19, zZ E 2)]
set_option maxRecDepth 100000 in
set_option maxHeartbeats 4000000 in
theorem k_X4 (l : Launch) (E : Ev) (base : Nat) : KCtr l yX4_init cX4_init 1 1 12 19 12894 E base 4 [.int 0, .null, .null, .null, .null, .int 0, .int 0, .int 0, .null, .null, .int 0, .null, .null, .null, .int 0, .null, .int 0, .null, .null, .null, .null, .null, .null, .null, .null, .null] (post_X4 E) := by
  refine ofK 0 (by decide +kernel) rfl rfl (by decide) (fun _ => rfl) (fun M o K => ?_)
  refine k_al0 (pc := 0) K dX4_init_0 ?_
  refine k_obj (pc := 1) K mo_RX4_1 oi1 oi2 dX4_init_1 (by decide) (by decide) ?_
  refine k_al0 (pc := 4) K dX4_init_4 ?_
  refine k_si (pc := 5) (v := 1152) K dX4_init_5 (by decide) ?_
  refine k_newL (pc := 8) (N := 1152) K ar_long dX4_init_8 (by decide) (by decide) (by decide) (by decide) (by decide) (fun q1 => ?_)
  refine k_putF (pc := 10) K ff_RX4_7 rfl dX4_init_10 (Nat.le_of_ble_eq_true rfl) ?_
  refine k_eq (ws' := [(o, .inr (4, [.int 0, .ref q1, .null, .null, .null, .int 0, .int 0, .int 0, .null, .null, .int 0, .null, .null, .null, .int 0, .null, .int 0, .null, .null, .null, .null, .null, .null, .null, .null, .null])), (q1, zL E 1152)]) rfl ?_
  refine k_al0 (pc := 13) K dX4_init_13 ?_
  refine k_si (pc := 14) (v := 1152) K dX4_init_14 (by decide) ?_
  refine k_newZ (pc := 17) (N := 1152) K ar_boolean dX4_init_17 (by decide) (by decide) (by decide) (by decide) (by decide) (fun q2 => ?_)
  refine k_putF (pc := 19) K ff_RX4_13 rfl dX4_init_19 (Nat.le_of_ble_eq_true rfl) ?_
  refine k_eq (ws' := [(o, .inr (4, [.int 0, .ref q1, .ref q2, .null, .null, .int 0, .int 0, .int 0, .null, .null, .int 0, .null, .null, .null, .int 0, .null, .int 0, .null, .null, .null, .null, .null, .null, .null, .null, .null])), (q1, zL E 1152), (q2, zZ E 1152)]) rfl ?_
  refine k_al0 (pc := 22) K dX4_init_22 ?_
  refine k_bi (pc := 23) (v := 6) K dX4_init_23 (by decide) ?_
  refine k_newI (pc := 25) (N := 6) K ar_int dX4_init_25 (by decide) (by decide) (by decide) (by decide) (by decide) (fun q3 => ?_)
  refine k_putF (pc := 27) K ff_RX4_17 rfl dX4_init_27 (Nat.le_of_ble_eq_true rfl) ?_
  refine k_eq (ws' := [(o, .inr (4, [.int 0, .ref q1, .ref q2, .ref q3, .null, .int 0, .int 0, .int 0, .null, .null, .int 0, .null, .null, .null, .int 0, .null, .int 0, .null, .null, .null, .null, .null, .null, .null, .null, .null])), (q1, zL E 1152), (q2, zZ E 1152), (q3, zI E 6)]) rfl ?_
  refine k_al0 (pc := 30) K dX4_init_30 ?_
  refine k_si (pc := 31) (v := 1536) K dX4_init_31 (by decide) ?_
  refine k_newZ (pc := 34) (N := 1536) K ar_boolean dX4_init_34 (by decide) (by decide) (by decide) (by decide) (by decide) (fun q4 => ?_)
  refine k_putF (pc := 36) K ff_RX4_21 rfl dX4_init_36 (Nat.le_of_ble_eq_true rfl) ?_
  refine k_eq (ws' := [(o, .inr (4, [.int 0, .ref q1, .ref q2, .ref q3, .ref q4, .int 0, .int 0, .int 0, .null, .null, .int 0, .null, .null, .null, .int 0, .null, .int 0, .null, .null, .null, .null, .null, .null, .null, .null, .null])), (q1, zL E 1152), (q2, zZ E 1152), (q3, zI E 6), (q4, zZ E 1536)]) rfl ?_
  refine k_al0 (pc := 39) K dX4_init_39 ?_
  refine k_si (pc := 40) (v := 192) K dX4_init_40 (by decide) ?_
  refine k_newZ (pc := 43) (N := 192) K ar_boolean dX4_init_43 (by decide) (by decide) (by decide) (by decide) (by decide) (fun q5 => ?_)
  refine k_putF (pc := 45) K ff_RX4_24 rfl dX4_init_45 (Nat.le_of_ble_eq_true rfl) ?_
  refine k_eq (ws' := [(o, .inr (4, [.int 0, .ref q1, .ref q2, .ref q3, .ref q4, .int 0, .int 0, .int 0, .ref q5, .null, .int 0, .null, .null, .null, .int 0, .null, .int 0, .null, .null, .null, .null, .null, .null, .null, .null, .null])), (q1, zL E 1152), (q2, zZ E 1152), (q3, zI E 6), (q4, zZ E 1536), (q5, zZ E 192)]) rfl ?_
  refine k_al0 (pc := 48) K dX4_init_48 ?_
  refine k_si (pc := 49) (v := 192) K dX4_init_49 (by decide) ?_
  refine k_newL (pc := 52) (N := 192) K ar_long dX4_init_52 (by decide) (by decide) (by decide) (by decide) (by decide) (fun q6 => ?_)
  refine k_putF (pc := 54) K ff_RX4_27 rfl dX4_init_54 (Nat.le_of_ble_eq_true rfl) ?_
  refine k_eq (ws' := [(o, .inr (4, [.int 0, .ref q1, .ref q2, .ref q3, .ref q4, .int 0, .int 0, .int 0, .ref q5, .ref q6, .int 0, .null, .null, .null, .int 0, .null, .int 0, .null, .null, .null, .null, .null, .null, .null, .null, .null])), (q1, zL E 1152), (q2, zZ E 1152), (q3, zI E 6), (q4, zZ E 1536), (q5, zZ E 192), (q6, zL E 192)]) rfl ?_
  refine k_al0 (pc := 57) K dX4_init_57 ?_
  refine k_bi (pc := 58) (v := 6) K dX4_init_58 (by decide) ?_
  refine k_newL (pc := 60) (N := 6) K ar_long dX4_init_60 (by decide) (by decide) (by decide) (by decide) (by decide) (fun q7 => ?_)
  refine k_putF (pc := 62) K ff_RX4_30 rfl dX4_init_62 (Nat.le_of_ble_eq_true rfl) ?_
  refine k_eq (ws' := [(o, .inr (4, [.int 0, .ref q1, .ref q2, .ref q3, .ref q4, .int 0, .int 0, .int 0, .ref q5, .ref q6, .int 0, .ref q7, .null, .null, .int 0, .null, .int 0, .null, .null, .null, .null, .null, .null, .null, .null, .null])), (q1, zL E 1152), (q2, zZ E 1152), (q3, zI E 6), (q4, zZ E 1536), (q5, zZ E 192), (q6, zL E 192), (q7, zL E 6)]) rfl ?_
  refine k_al0 (pc := 65) K dX4_init_65 ?_
  refine k_si (pc := 66) (v := 192) K dX4_init_66 (by decide) ?_
  refine k_newL (pc := 69) (N := 192) K ar_long dX4_init_69 (by decide) (by decide) (by decide) (by decide) (by decide) (fun q8 => ?_)
  refine k_putF (pc := 71) K ff_RX4_33 rfl dX4_init_71 (Nat.le_of_ble_eq_true rfl) ?_
  refine k_eq (ws' := [(o, .inr (4, [.int 0, .ref q1, .ref q2, .ref q3, .ref q4, .int 0, .int 0, .int 0, .ref q5, .ref q6, .int 0, .ref q7, .ref q8, .null, .int 0, .null, .int 0, .null, .null, .null, .null, .null, .null, .null, .null, .null])), (q1, zL E 1152), (q2, zZ E 1152), (q3, zI E 6), (q4, zZ E 1536), (q5, zZ E 192), (q6, zL E 192), (q7, zL E 6), (q8, zL E 192)]) rfl ?_
  refine k_al0 (pc := 74) K dX4_init_74 ?_
  refine k_si (pc := 75) (v := 192) K dX4_init_75 (by decide) ?_
  refine k_newZ (pc := 78) (N := 192) K ar_boolean dX4_init_78 (by decide) (by decide) (by decide) (by decide) (by decide) (fun q9 => ?_)
  refine k_putF (pc := 80) K ff_RX4_36 rfl dX4_init_80 (Nat.le_of_ble_eq_true rfl) ?_
  refine k_eq (ws' := [(o, .inr (4, [.int 0, .ref q1, .ref q2, .ref q3, .ref q4, .int 0, .int 0, .int 0, .ref q5, .ref q6, .int 0, .ref q7, .ref q8, .ref q9, .int 0, .null, .int 0, .null, .null, .null, .null, .null, .null, .null, .null, .null])), (q1, zL E 1152), (q2, zZ E 1152), (q3, zI E 6), (q4, zZ E 1536), (q5, zZ E 192), (q6, zL E 192), (q7, zL E 6), (q8, zL E 192), (q9, zZ E 192)]) rfl ?_
  refine k_al0 (pc := 83) K dX4_init_83 ?_
  refine k_si (pc := 84) (v := 192) K dX4_init_84 (by decide) ?_
  refine k_newI (pc := 87) (N := 192) K ar_int dX4_init_87 (by decide) (by decide) (by decide) (by decide) (by decide) (fun q10 => ?_)
  refine k_putF (pc := 89) K ff_RX4_39 rfl dX4_init_89 (Nat.le_of_ble_eq_true rfl) ?_
  refine k_eq (ws' := [(o, .inr (4, [.int 0, .ref q1, .ref q2, .ref q3, .ref q4, .int 0, .int 0, .int 0, .ref q5, .ref q6, .int 0, .ref q7, .ref q8, .ref q9, .int 0, .ref q10, .int 0, .null, .null, .null, .null, .null, .null, .null, .null, .null])), (q1, zL E 1152), (q2, zZ E 1152), (q3, zI E 6), (q4, zZ E 1536), (q5, zZ E 192), (q6, zL E 192), (q7, zL E 6), (q8, zL E 192), (q9, zZ E 192), (q10, zI E 192)]) rfl ?_
  refine k_al0 (pc := 92) K dX4_init_92 ?_
  refine k_si (pc := 93) (v := 192) K dX4_init_93 (by decide) ?_
  refine k_newL (pc := 96) (N := 192) K ar_long dX4_init_96 (by decide) (by decide) (by decide) (by decide) (by decide) (fun q11 => ?_)
  refine k_putF (pc := 98) K ff_RX4_42 rfl dX4_init_98 (Nat.le_of_ble_eq_true rfl) ?_
  refine k_eq (ws' := [(o, .inr (4, [.int 0, .ref q1, .ref q2, .ref q3, .ref q4, .int 0, .int 0, .int 0, .ref q5, .ref q6, .int 0, .ref q7, .ref q8, .ref q9, .int 0, .ref q10, .int 0, .ref q11, .null, .null, .null, .null, .null, .null, .null, .null])), (q1, zL E 1152), (q2, zZ E 1152), (q3, zI E 6), (q4, zZ E 1536), (q5, zZ E 192), (q6, zL E 192), (q7, zL E 6), (q8, zL E 192), (q9, zZ E 192), (q10, zI E 192), (q11, zL E 192)]) rfl ?_
  refine k_al0 (pc := 101) K dX4_init_101 ?_
  refine k_si (pc := 102) (v := 192) K dX4_init_102 (by decide) ?_
  refine k_newZ (pc := 105) (N := 192) K ar_boolean dX4_init_105 (by decide) (by decide) (by decide) (by decide) (by decide) (fun q12 => ?_)
  refine k_putF (pc := 107) K ff_RX4_45 rfl dX4_init_107 (Nat.le_of_ble_eq_true rfl) ?_
  refine k_eq (ws' := [(o, .inr (4, [.int 0, .ref q1, .ref q2, .ref q3, .ref q4, .int 0, .int 0, .int 0, .ref q5, .ref q6, .int 0, .ref q7, .ref q8, .ref q9, .int 0, .ref q10, .int 0, .ref q11, .ref q12, .null, .null, .null, .null, .null, .null, .null])), (q1, zL E 1152), (q2, zZ E 1152), (q3, zI E 6), (q4, zZ E 1536), (q5, zZ E 192), (q6, zL E 192), (q7, zL E 6), (q8, zL E 192), (q9, zZ E 192), (q10, zI E 192), (q11, zL E 192), (q12, zZ E 192)]) rfl ?_
  refine k_al0 (pc := 110) K dX4_init_110 ?_
  refine k_si (pc := 111) (v := 2304) K dX4_init_111 (by decide) ?_
  refine k_newL (pc := 114) (N := 2304) K ar_long dX4_init_114 (by decide) (by decide) (by decide) (by decide) (by decide) (fun q13 => ?_)
  refine k_putF (pc := 116) K ff_RX4_48 rfl dX4_init_116 (Nat.le_of_ble_eq_true rfl) ?_
  refine k_eq (ws' := [(o, .inr (4, [.int 0, .ref q1, .ref q2, .ref q3, .ref q4, .int 0, .int 0, .int 0, .ref q5, .ref q6, .int 0, .ref q7, .ref q8, .ref q9, .int 0, .ref q10, .int 0, .ref q11, .ref q12, .ref q13, .null, .null, .null, .null, .null, .null])), (q1, zL E 1152), (q2, zZ E 1152), (q3, zI E 6), (q4, zZ E 1536), (q5, zZ E 192), (q6, zL E 192), (q7, zL E 6), (q8, zL E 192), (q9, zZ E 192), (q10, zI E 192), (q11, zL E 192), (q12, zZ E 192), (q13, zL E 2304)]) rfl ?_
  refine k_al0 (pc := 119) K dX4_init_119 ?_
  refine k_si (pc := 120) (v := 2304) K dX4_init_120 (by decide) ?_
  refine k_newZ (pc := 123) (N := 2304) K ar_boolean dX4_init_123 (by decide) (by decide) (by decide) (by decide) (by decide) (fun q14 => ?_)
  refine k_putF (pc := 125) K ff_RX4_51 rfl dX4_init_125 (Nat.le_of_ble_eq_true rfl) ?_
  refine k_eq (ws' := [(o, .inr (4, [.int 0, .ref q1, .ref q2, .ref q3, .ref q4, .int 0, .int 0, .int 0, .ref q5, .ref q6, .int 0, .ref q7, .ref q8, .ref q9, .int 0, .ref q10, .int 0, .ref q11, .ref q12, .ref q13, .ref q14, .null, .null, .null, .null, .null])), (q1, zL E 1152), (q2, zZ E 1152), (q3, zI E 6), (q4, zZ E 1536), (q5, zZ E 192), (q6, zL E 192), (q7, zL E 6), (q8, zL E 192), (q9, zZ E 192), (q10, zI E 192), (q11, zL E 192), (q12, zZ E 192), (q13, zL E 2304), (q14, zZ E 2304)]) rfl ?_
  refine k_al0 (pc := 128) K dX4_init_128 ?_
  refine k_si (pc := 129) (v := 3072) K dX4_init_129 (by decide) ?_
  refine k_newZ (pc := 132) (N := 3072) K ar_boolean dX4_init_132 (by decide) (by decide) (by decide) (by decide) (by decide) (fun q15 => ?_)
  refine k_putF (pc := 134) K ff_RX4_54 rfl dX4_init_134 (Nat.le_of_ble_eq_true rfl) ?_
  refine k_eq (ws' := [(o, .inr (4, [.int 0, .ref q1, .ref q2, .ref q3, .ref q4, .int 0, .int 0, .int 0, .ref q5, .ref q6, .int 0, .ref q7, .ref q8, .ref q9, .int 0, .ref q10, .int 0, .ref q11, .ref q12, .ref q13, .ref q14, .ref q15, .null, .null, .null, .null])), (q1, zL E 1152), (q2, zZ E 1152), (q3, zI E 6), (q4, zZ E 1536), (q5, zZ E 192), (q6, zL E 192), (q7, zL E 6), (q8, zL E 192), (q9, zZ E 192), (q10, zI E 192), (q11, zL E 192), (q12, zZ E 192), (q13, zL E 2304), (q14, zZ E 2304), (q15, zZ E 3072)]) rfl ?_
  refine k_al0 (pc := 137) K dX4_init_137 ?_
  refine k_bi (pc := 138) (v := 12) K dX4_init_138 (by decide) ?_
  refine k_newI (pc := 140) (N := 12) K ar_int dX4_init_140 (by decide) (by decide) (by decide) (by decide) (by decide) (fun q16 => ?_)
  refine k_putF (pc := 142) K ff_RX4_57 rfl dX4_init_142 (Nat.le_of_ble_eq_true rfl) ?_
  refine k_eq (ws' := [(o, .inr (4, [.int 0, .ref q1, .ref q2, .ref q3, .ref q4, .int 0, .int 0, .int 0, .ref q5, .ref q6, .int 0, .ref q7, .ref q8, .ref q9, .int 0, .ref q10, .int 0, .ref q11, .ref q12, .ref q13, .ref q14, .ref q15, .ref q16, .null, .null, .null])), (q1, zL E 1152), (q2, zZ E 1152), (q3, zI E 6), (q4, zZ E 1536), (q5, zZ E 192), (q6, zL E 192), (q7, zL E 6), (q8, zL E 192), (q9, zZ E 192), (q10, zI E 192), (q11, zL E 192), (q12, zZ E 192), (q13, zL E 2304), (q14, zZ E 2304), (q15, zZ E 3072), (q16, zI E 12)]) rfl ?_
  refine k_al0 (pc := 145) K dX4_init_145 ?_
  refine k_ic (pc := 146) (v := 2) K dX4_init_146 (by decide) ?_
  refine k_newI (pc := 147) (N := 2) K ar_int dX4_init_147 (by decide) (by decide) (by decide) (by decide) (by decide) (fun q17 => ?_)
  refine k_putF (pc := 149) K ff_RX4_60 rfl dX4_init_149 (Nat.le_of_ble_eq_true rfl) ?_
  refine k_eq (ws' := [(o, .inr (4, [.int 0, .ref q1, .ref q2, .ref q3, .ref q4, .int 0, .int 0, .int 0, .ref q5, .ref q6, .int 0, .ref q7, .ref q8, .ref q9, .int 0, .ref q10, .int 0, .ref q11, .ref q12, .ref q13, .ref q14, .ref q15, .ref q16, .ref q17, .null, .null])), (q1, zL E 1152), (q2, zZ E 1152), (q3, zI E 6), (q4, zZ E 1536), (q5, zZ E 192), (q6, zL E 192), (q7, zL E 6), (q8, zL E 192), (q9, zZ E 192), (q10, zI E 192), (q11, zL E 192), (q12, zZ E 192), (q13, zL E 2304), (q14, zZ E 2304), (q15, zZ E 3072), (q16, zI E 12), (q17, zI E 2)]) rfl ?_
  refine k_al0 (pc := 152) K dX4_init_152 ?_
  refine k_ic (pc := 153) (v := 2) K dX4_init_153 (by decide) ?_
  refine k_newI (pc := 154) (N := 2) K ar_int dX4_init_154 (by decide) (by decide) (by decide) (by decide) (by decide) (fun q18 => ?_)
  refine k_putF (pc := 156) K ff_RX4_63 rfl dX4_init_156 (Nat.le_of_ble_eq_true rfl) ?_
  refine k_eq (ws' := [(o, .inr (4, [.int 0, .ref q1, .ref q2, .ref q3, .ref q4, .int 0, .int 0, .int 0, .ref q5, .ref q6, .int 0, .ref q7, .ref q8, .ref q9, .int 0, .ref q10, .int 0, .ref q11, .ref q12, .ref q13, .ref q14, .ref q15, .ref q16, .ref q17, .ref q18, .null])), (q1, zL E 1152), (q2, zZ E 1152), (q3, zI E 6), (q4, zZ E 1536), (q5, zZ E 192), (q6, zL E 192), (q7, zL E 6), (q8, zL E 192), (q9, zZ E 192), (q10, zI E 192), (q11, zL E 192), (q12, zZ E 192), (q13, zL E 2304), (q14, zZ E 2304), (q15, zZ E 3072), (q16, zI E 12), (q17, zI E 2), (q18, zI E 2)]) rfl ?_
  refine k_al0 (pc := 159) K dX4_init_159 ?_
  refine k_ic (pc := 160) (v := 2) K dX4_init_160 (by decide) ?_
  refine k_newZ (pc := 161) (N := 2) K ar_boolean dX4_init_161 (by decide) (by decide) (by decide) (by decide) (by decide) (fun q19 => ?_)
  refine k_putF (pc := 163) K ff_RX4_66 rfl dX4_init_163 (Nat.le_of_ble_eq_true rfl) ?_
  refine k_eq (ws' := [(o, .inr (4, [.int 0, .ref q1, .ref q2, .ref q3, .ref q4, .int 0, .int 0, .int 0, .ref q5, .ref q6, .int 0, .ref q7, .ref q8, .ref q9, .int 0, .ref q10, .int 0, .ref q11, .ref q12, .ref q13, .ref q14, .ref q15, .ref q16, .ref q17, .ref q18, .ref q19])), (q1, zL E 1152), (q2, zZ E 1152), (q3, zI E 6), (q4, zZ E 1536), (q5, zZ E 192), (q6, zL E 192), (q7, zL E 6), (q8, zL E 192), (q9, zZ E 192), (q10, zI E 192), (q11, zL E 192), (q12, zZ E 192), (q13, zL E 2304), (q14, zZ E 2304), (q15, zZ E 3072), (q16, zI E 12), (q17, zI E 2), (q18, zI E 2), (q19, zZ E 2)]) rfl ?_
  exact k_ret (pc := 166) K dX4_init_166 (by decide) (by decide) (fun H t ht hP hD hF => ⟨⟨_, rfl, ⟨q1, q2, q3, q4, q5, q6, q7, q8, q9, q10, q11, q12, q13, q14, q15, q16, q17, q18, q19, rfl⟩, by rw [ht]; exact hP, hD⟩, hF⟩)
