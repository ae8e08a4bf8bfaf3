theorem oi1 : Cond.instanceMethod Lib.objectInit ∈ Gw := gm1 24 (by decide +kernel) rfl
theorem oi2 : Cond.code Lib.objectInit ⟨#[0xb1]⟩ 1 none ∈ Gw := gm1 25 (by decide +kernel) rfl
theorem mo_RX3_5 : Cond.methodLink RX3 5 Lib.objectInit ∈ Gw := gm1 23 (by decide +kernel) rfl
theorem mo_RX1_3 : Cond.methodLink RX1 3 Lib.objectInit ∈ Gw := gm1 31 (by decide +kernel) rfl
theorem mo_RX0_3 : Cond.methodLink RX0 3 Lib.objectInit ∈ Gw := gm1 63 (by decide +kernel) rfl
theorem mo_RX2_3 : Cond.methodLink RX2 3 Lib.objectInit ∈ Gw := gm1 88 (by decide +kernel) rfl
theorem mo_RX4_1 : Cond.methodLink RX4 1 Lib.objectInit ∈ Gw := gm4 231 (by decide +kernel) rfl
theorem ar_int : Cond.arrayClass .int ∈ Gw := gm1 55 (by decide +kernel) rfl
theorem ar_long : Cond.arrayClass .long ∈ Gw := gm1 56 (by decide +kernel) rfl
theorem ar_byte : Cond.arrayClass .byte ∈ Gw := gm2 34 (by decide +kernel) rfl
theorem ar_boolean : Cond.arrayClass .boolean ∈ Gw := gm5 71 (by decide +kernel) rfl
theorem ff_RX1_9 : FF RX1 9 1 2 (.array .int) := ⟨_, _, tyX1, rfl, inG_RX1, by decide, rfl, gm1 38 (by decide +kernel) rfl, tyX1_ok, nmX1, rfl, by decide +kernel⟩
theorem ff_RX1_17 : FF RX1 17 1 3 (.array (.array .long)) := ⟨_, _, tyX1, rfl, inG_RX1, by decide, rfl, gm1 40 (by decide +kernel) rfl, tyX1_ok, nmX1, rfl, by decide +kernel⟩
theorem ff_RX1_20 : FF RX1 20 1 4 (.array (.array .long)) := ⟨_, _, tyX1, rfl, inG_RX1, by decide, rfl, gm1 42 (by decide +kernel) rfl, tyX1_ok, nmX1, rfl, by decide +kernel⟩
theorem ff_RX0_9 : FF RX0 9 0 1 (.array .int) := ⟨_, _, tyX0, rfl, inG_RX0, by decide, rfl, gm1 66 (by decide +kernel) rfl, tyX0_ok, nmX0, rfl, by decide +kernel⟩
theorem ff_RX0_15 : FF RX0 15 0 2 (.array .long) := ⟨_, _, tyX0, rfl, inG_RX0, by decide, rfl, gm1 68 (by decide +kernel) rfl, tyX0_ok, nmX0, rfl, by decide +kernel⟩
theorem ff_RX0_19 : FF RX0 19 0 3 (.array .int) := ⟨_, _, tyX0, rfl, inG_RX0, by decide, rfl, gm1 70 (by decide +kernel) rfl, tyX0_ok, nmX0, rfl, by decide +kernel⟩
theorem ff_RX0_22 : FF RX0 22 0 4 (.array .long) := ⟨_, _, tyX0, rfl, inG_RX0, by decide, rfl, gm1 71 (by decide +kernel) rfl, tyX0_ok, nmX0, rfl, by decide +kernel⟩
theorem ff_RX2_9 : FF RX2 9 2 0 (.array .long) := ⟨_, _, tyX2, rfl, inG_RX2, by decide, rfl, gm1 89 (by decide +kernel) rfl, tyX2_ok, nmX2, rfl, by decide +kernel⟩
theorem ff_RX3_14 : FF RX3 14 3 0 (.object "SliceColumns$Table") := ⟨_, _, tyX3, rfl, inG_RX3, by decide, rfl, gm1 93 (by decide +kernel) rfl, tyX3_ok, nmX3, rfl, by decide +kernel⟩
theorem ff_RX3_18 : FF RX3 18 3 1 (.array (.object "SliceColumns$Table")) := ⟨_, _, tyX3, rfl, inG_RX3, by decide, rfl, gm1 94 (by decide +kernel) rfl, tyX3_ok, nmX3, rfl, by decide +kernel⟩
theorem ff_RX3_25 : FF RX3 25 3 2 (.object "SliceColumns$Picked") := ⟨_, _, tyX3, rfl, inG_RX3, by decide, rfl, gm1 95 (by decide +kernel) rfl, tyX3_ok, nmX3, rfl, by decide +kernel⟩
theorem ff_RX3_32 : FF RX3 32 3 3 (.object "SliceColumns$Wide") := ⟨_, _, tyX3, rfl, inG_RX3, by decide, rfl, gm1 96 (by decide +kernel) rfl, tyX3_ok, nmX3, rfl, by decide +kernel⟩
theorem ff_RX3_36 : FF RX3 36 3 4 (.array .long) := ⟨_, _, tyX3, rfl, inG_RX3, by decide, rfl, gm1 97 (by decide +kernel) rfl, tyX3_ok, nmX3, rfl, by decide +kernel⟩
theorem ff_RX3_40 : FF RX3 40 3 5 (.array .long) := ⟨_, _, tyX3, rfl, inG_RX3, by decide, rfl, gm1 98 (by decide +kernel) rfl, tyX3_ok, nmX3, rfl, by decide +kernel⟩
theorem ff_RX4_7 : FF RX4 7 4 1 (.array .long) := ⟨_, _, tyX4, rfl, inG_RX4, by decide, rfl, gm4 233 (by decide +kernel) rfl, tyX4_ok, nmX4, rfl, by decide +kernel⟩
theorem ff_RX4_13 : FF RX4 13 4 2 (.array .boolean) := ⟨_, _, tyX4, rfl, inG_RX4, by decide, rfl, gm4 234 (by decide +kernel) rfl, tyX4_ok, nmX4, rfl, by decide +kernel⟩
theorem ff_RX4_17 : FF RX4 17 4 3 (.array .int) := ⟨_, _, tyX4, rfl, inG_RX4, by decide, rfl, gm4 235 (by decide +kernel) rfl, tyX4_ok, nmX4, rfl, by decide +kernel⟩
theorem ff_RX4_21 : FF RX4 21 4 4 (.array .boolean) := ⟨_, _, tyX4, rfl, inG_RX4, by decide, rfl, gm4 236 (by decide +kernel) rfl, tyX4_ok, nmX4, rfl, by decide +kernel⟩
theorem ff_RX4_24 : FF RX4 24 4 8 (.array .boolean) := ⟨_, _, tyX4, rfl, inG_RX4, by decide, rfl, gm5 0 (by decide +kernel) rfl, tyX4_ok, nmX4, rfl, by decide +kernel⟩
theorem ff_RX4_27 : FF RX4 27 4 9 (.array .long) := ⟨_, _, tyX4, rfl, inG_RX4, by decide, rfl, gm5 1 (by decide +kernel) rfl, tyX4_ok, nmX4, rfl, by decide +kernel⟩
theorem ff_RX4_30 : FF RX4 30 4 11 (.array .long) := ⟨_, _, tyX4, rfl, inG_RX4, by decide, rfl, gm5 3 (by decide +kernel) rfl, tyX4_ok, nmX4, rfl, by decide +kernel⟩
theorem ff_RX4_33 : FF RX4 33 4 12 (.array .long) := ⟨_, _, tyX4, rfl, inG_RX4, by decide, rfl, gm5 4 (by decide +kernel) rfl, tyX4_ok, nmX4, rfl, by decide +kernel⟩
theorem ff_RX4_36 : FF RX4 36 4 13 (.array .boolean) := ⟨_, _, tyX4, rfl, inG_RX4, by decide, rfl, gm5 5 (by decide +kernel) rfl, tyX4_ok, nmX4, rfl, by decide +kernel⟩
theorem ff_RX4_39 : FF RX4 39 4 15 (.array .int) := ⟨_, _, tyX4, rfl, inG_RX4, by decide, rfl, gm5 7 (by decide +kernel) rfl, tyX4_ok, nmX4, rfl, by decide +kernel⟩
theorem ff_RX4_42 : FF RX4 42 4 17 (.array .long) := ⟨_, _, tyX4, rfl, inG_RX4, by decide, rfl, gm5 9 (by decide +kernel) rfl, tyX4_ok, nmX4, rfl, by decide +kernel⟩
theorem ff_RX4_45 : FF RX4 45 4 18 (.array .boolean) := ⟨_, _, tyX4, rfl, inG_RX4, by decide, rfl, gm5 10 (by decide +kernel) rfl, tyX4_ok, nmX4, rfl, by decide +kernel⟩
theorem ff_RX4_48 : FF RX4 48 4 19 (.array .long) := ⟨_, _, tyX4, rfl, inG_RX4, by decide, rfl, gm5 11 (by decide +kernel) rfl, tyX4_ok, nmX4, rfl, by decide +kernel⟩
theorem ff_RX4_51 : FF RX4 51 4 20 (.array .boolean) := ⟨_, _, tyX4, rfl, inG_RX4, by decide, rfl, gm5 12 (by decide +kernel) rfl, tyX4_ok, nmX4, rfl, by decide +kernel⟩
theorem ff_RX4_54 : FF RX4 54 4 21 (.array .boolean) := ⟨_, _, tyX4, rfl, inG_RX4, by decide, rfl, gm5 13 (by decide +kernel) rfl, tyX4_ok, nmX4, rfl, by decide +kernel⟩
theorem ff_RX4_57 : FF RX4 57 4 22 (.array .int) := ⟨_, _, tyX4, rfl, inG_RX4, by decide, rfl, gm5 14 (by decide +kernel) rfl, tyX4_ok, nmX4, rfl, by decide +kernel⟩
theorem ff_RX4_60 : FF RX4 60 4 23 (.array .int) := ⟨_, _, tyX4, rfl, inG_RX4, by decide, rfl, gm5 15 (by decide +kernel) rfl, tyX4_ok, nmX4, rfl, by decide +kernel⟩
theorem ff_RX4_63 : FF RX4 63 4 24 (.array .int) := ⟨_, _, tyX4, rfl, inG_RX4, by decide, rfl, gm5 16 (by decide +kernel) rfl, tyX4_ok, nmX4, rfl, by decide +kernel⟩
theorem ff_RX4_66 : FF RX4 66 4 25 (.array .boolean) := ⟨_, _, tyX4, rfl, inG_RX4, by decide, rfl, gm5 17 (by decide +kernel) rfl, tyX4_ok, nmX4, rfl, by decide +kernel⟩
theorem kl_JJ : Cond.classLink RX1 15 "[[J" ∈ Gw := gm1 32 (by decide +kernel) rfl
theorem kn_RX1 : Cond.classLink RX3 11 RX1 ∈ Gw := gm1 26 (by decide +kernel) rfl
theorem ki_RX1 : Cond.instantiable RX1 5 ∈ Gw := gm1 27 (by decide +kernel) rfl
theorem kz_RX1 : Cond.initialized RX1 ∈ Gw := gm1 2 (by decide +kernel) rfl
theorem kc_RX1 : CalI yX1_init cX1_init 1 := ⟨gm1 30 (by decide +kernel) rfl, gm1 29 (by decide +kernel) rfl, gm1 2 (by decide +kernel) rfl, by decide +kernel, by decide +kernel, by decide +kernel, rfl⟩
theorem kn_RX0 : Cond.classLink RX3 22 RX0 ∈ Gw := gm1 58 (by decide +kernel) rfl
theorem ki_RX0 : Cond.instantiable RX0 5 ∈ Gw := gm1 59 (by decide +kernel) rfl
theorem kz_RX0 : Cond.initialized RX0 ∈ Gw := gm1 3 (by decide +kernel) rfl
theorem kc_RX0 : CalI yX0_init cX0_init 1 := ⟨gm1 62 (by decide +kernel) rfl, gm1 61 (by decide +kernel) rfl, gm1 3 (by decide +kernel) rfl, by decide +kernel, by decide +kernel, by decide +kernel, rfl⟩
theorem kn_RX2 : Cond.classLink RX3 29 RX2 ∈ Gw := gm1 83 (by decide +kernel) rfl
theorem ki_RX2 : Cond.instantiable RX2 1 ∈ Gw := gm1 84 (by decide +kernel) rfl
theorem kz_RX2 : Cond.initialized RX2 ∈ Gw := gm1 4 (by decide +kernel) rfl
theorem kc_RX2 : CalI yX2_init cX2_init 1 := ⟨gm1 87 (by decide +kernel) rfl, gm1 86 (by decide +kernel) rfl, gm1 4 (by decide +kernel) rfl, by decide +kernel, by decide +kernel, by decide +kernel, rfl⟩
theorem k_eq {M : MT} {E : Ev} {A : Nat → Prop} {nL : Nat} {Q : State → Prop} {kc ks : Nat} {ws ws' : va_W} {pc : Nat} {L : List (Option Value)} {st : List Value} (h : ws = ws') (k : VC M E A nL Q kc ks ws' pc L st) : VC M E A nL Q kc ks ws pc L st := h ▸ k
def post_X0 (E : Ev) (o : Nat) (ws : va_W) : Prop := ∃ (q1 : Nat) (q2 : Nat) (q3 : Nat) (q4 : Nat), ws = (((([((o, .inr (0, [.int 0, .ref q1, .ref q2, .ref q3, .ref q4])) : Nat × va_E)] ++ [(q1, zI E 192)]) ++ [(q2, zL E 192)]) ++ [(q3, zI E 192)]) ++ [(q4, zL E 192)])
set_option maxRecDepth 100000 in
set_option maxHeartbeats 4000000 in
theorem k_X0 (l : Launch) (E : Ev) (base : Nat) : KCtr l yX0_init cX0_init 1 1 12 4 768 E base 0 [.int 0, .null, .null, .null, .null] (post_X0 E) := by
  refine ofK 0 (by decide +kernel) rfl rfl (by decide) (fun _ => rfl) (fun M o K => ?_)
  refine k_al0 (pc := 0) K dX0_init_0 ?_
  refine k_obj (pc := 1) K mo_RX0_3 oi1 oi2 dX0_init_1 (by decide) (by decide) ?_
  refine k_al0 (pc := 4) K dX0_init_4 ?_
  refine k_si (pc := 5) (v := 192) K dX0_init_5 (by decide) ?_
  refine k_newI (pc := 8) (N := 192) K ar_int dX0_init_8 (by decide) (by decide) (by decide) (by decide) (by decide) (fun q1 => ?_)
  refine k_putF (pc := 10) K ff_RX0_9 rfl dX0_init_10 (Nat.le_of_ble_eq_true rfl) ?_
  refine k_al0 (pc := 13) K dX0_init_13 ?_
  refine k_si (pc := 14) (v := 192) K dX0_init_14 (by decide) ?_
  refine k_newL (pc := 17) (N := 192) K ar_long dX0_init_17 (by decide) (by decide) (by decide) (by decide) (by decide) (fun q2 => ?_)
  refine k_putF (pc := 19) K ff_RX0_15 rfl dX0_init_19 (Nat.le_of_ble_eq_true rfl) ?_
  refine k_al0 (pc := 22) K dX0_init_22 ?_
  refine k_si (pc := 23) (v := 192) K dX0_init_23 (by decide) ?_
  refine k_newI (pc := 26) (N := 192) K ar_int dX0_init_26 (by decide) (by decide) (by decide) (by decide) (by decide) (fun q3 => ?_)
  refine k_putF (pc := 28) K ff_RX0_19 rfl dX0_init_28 (Nat.le_of_ble_eq_true rfl) ?_
  refine k_al0 (pc := 31) K dX0_init_31 ?_
  refine k_si (pc := 32) (v := 192) K dX0_init_32 (by decide) ?_
  refine k_newL (pc := 35) (N := 192) K ar_long dX0_init_35 (by decide) (by decide) (by decide) (by decide) (by decide) (fun q4 => ?_)
  refine k_putF (pc := 37) K ff_RX0_22 rfl dX0_init_37 (Nat.le_of_ble_eq_true rfl) ?_
  exact k_ret (pc := 40) K dX0_init_40 (by decide) (by decide) (fun H t ht hP hD hF => ⟨⟨_, rfl, ⟨q1, q2, q3, q4, rfl⟩, by rw [ht]; exact hP, hD⟩, hF⟩)
def post_X1 (E : Ev) (o : Nat) (ws : va_W) : Prop := ∃ (q1 : Nat) (q2 : Nat) (r2 : Nat → Nat) (q3 : Nat) (r3 : Nat → Nat), ws = ((([((o, .inr (1, [.int 0, .int 0, .ref q1, .ref q2, .ref q3])) : Nat × va_E)] ++ [(q1, zI E 6)]) ++ (((q2, .inl (E.2.1 3, 6, .inr (.inr (.inr (.inr (fun i => some (r2 i))))))) : Nat × va_E) :: (List.range 6).map (fun i => (r2 i, zL E 192)))) ++ (((q3, .inl (E.2.1 3, 8, .inr (.inr (.inr (.inr (fun i => some (r3 i))))))) : Nat × va_E) :: (List.range 8).map (fun i => (r3 i, zL E 3))))
set_option maxRecDepth 100000 in
set_option maxHeartbeats 4000000 in
theorem k_X1 (l : Launch) (E : Ev) (base : Nat) : KCtr l yX1_init cX1_init 1 1 12 17 1196 E base 1 [.int 0, .int 0, .null, .null, .null] (post_X1 E) := by
  refine ofK 0 (by decide +kernel) rfl rfl (by decide) (fun _ => rfl) (fun M o K => ?_)
  refine k_al0 (pc := 0) K dX1_init_0 ?_
  refine k_obj (pc := 1) K mo_RX1_3 oi1 oi2 dX1_init_1 (by decide) (by decide) ?_
  refine k_al0 (pc := 4) K dX1_init_4 ?_
  refine k_bi (pc := 5) (v := 6) K dX1_init_5 (by decide) ?_
  refine k_newI (pc := 7) (N := 6) K ar_int dX1_init_7 (by decide) (by decide) (by decide) (by decide) (by decide) (fun q1 => ?_)
  refine k_putF (pc := 9) K ff_RX1_9 rfl dX1_init_9 (Nat.le_of_ble_eq_true rfl) ?_
  refine k_al0 (pc := 12) K dX1_init_12 ?_
  refine k_bi (pc := 13) (v := 6) K dX1_init_13 (by decide) ?_
  refine k_si (pc := 15) (v := 192) K dX1_init_15 (by decide) ?_
  refine k_mna (pc := 18) (N' := 6) (K' := 192) K kl_JJ ar_long dX1_init_18 (by decide) (by decide) (by decide) (by decide) (by decide) (by decide) (by decide) (by decide) (by decide) (fun q2 r2 => ?_)
  refine k_putF (pc := 22) K ff_RX1_17 rfl dX1_init_22 (Nat.le_of_ble_eq_true rfl) ?_
  refine k_al0 (pc := 25) K dX1_init_25 ?_
  refine k_bi (pc := 26) (v := 8) K dX1_init_26 (by decide) ?_
  refine k_ic (pc := 28) (v := 3) K dX1_init_28 (by decide) ?_
  refine k_mna (pc := 29) (N' := 8) (K' := 3) K kl_JJ ar_long dX1_init_29 (by decide) (by decide) (by decide) (by decide) (by decide) (by decide) (by decide) (by decide) (by decide) (fun q3 r3 => ?_)
  refine k_putF (pc := 33) K ff_RX1_20 rfl dX1_init_33 (Nat.le_of_ble_eq_true rfl) ?_
  exact k_ret (pc := 36) K dX1_init_36 (by decide) (by decide) (fun H t ht hP hD hF => ⟨⟨_, rfl, ⟨q1, q2, r2, q3, r3, rfl⟩, by rw [ht]; exact hP, hD⟩, hF⟩)
def post_X2 (E : Ev) (o : Nat) (ws : va_W) : Prop := ∃ (q1 : Nat), ws = ([((o, .inr (2, [.ref q1])) : Nat × va_E)] ++ [(q1, zL E 4)])
set_option maxRecDepth 100000 in
set_option maxHeartbeats 4000000 in
theorem k_X2 (l : Launch) (E : Ev) (base : Nat) : KCtr l yX2_init cX2_init 1 1 12 1 4 E base 2 [.null] (post_X2 E) := by
  refine ofK 0 (by decide +kernel) rfl rfl (by decide) (fun _ => rfl) (fun M o K => ?_)
  refine k_al0 (pc := 0) K dX2_init_0 ?_
  refine k_obj (pc := 1) K mo_RX2_3 oi1 oi2 dX2_init_1 (by decide) (by decide) ?_
  refine k_al0 (pc := 4) K dX2_init_4 ?_
  refine k_ic (pc := 5) (v := 4) K dX2_init_5 (by decide) ?_
  refine k_newL (pc := 6) (N := 4) K ar_long dX2_init_6 (by decide) (by decide) (by decide) (by decide) (by decide) (fun q1 => ?_)
  refine k_putF (pc := 8) K ff_RX2_9 rfl dX2_init_8 (Nat.le_of_ble_eq_true rfl) ?_
  exact k_ret (pc := 11) K dX2_init_11 (by decide) (by decide) (fun H t ht hP hD hF => ⟨⟨_, rfl, ⟨q1, rfl⟩, by rw [ht]; exact hP, hD⟩, hF⟩)
def post_X3 (E : Ev) (o : Nat) (ws : va_W) : Prop := ∃ (q1 : Nat) (w1 : va_W) (q2 : Nat) (q3 : Nat) (w3 : va_W) (q4 : Nat) (w4 : va_W) (q5 : Nat) (q6 : Nat), ws = (((((([((o, .inr (3, [.ref q1, .ref q2, .ref q3, .ref q4, .ref q5, .ref q6, .int 0])) : Nat × va_E)] ++ w1) ++ [((q2, .inl (E.2.1 4, 2, .inr (.inr (.inr (.inr (fun _ => none)))))) : Nat × va_E)]) ++ w3) ++ w4) ++ [(q5, zL E 3)]) ++ [(q6, zL E 192)]) ∧ post_X1 E q1 w1 ∧ post_X0 E q3 w3 ∧ post_X2 E q4 w4
set_option maxRecDepth 100000 in
set_option maxHeartbeats 4000000 in
theorem k_X3 (l : Launch) (E : Ev) (base : Nat) : KCtr l yX3_init cX3_init 1 2 40 28 2176 E base 3 [.null, .null, .null, .null, .null, .null, .int 0] (post_X3 E) := by
  refine ofK 0 (by decide +kernel) rfl rfl (by decide) (fun _ => rfl) (fun M o K => ?_)
  refine k_al0 (pc := 0) K dX3_init_0 ?_
  refine k_obj (pc := 1) K mo_RX3_5 oi1 oi2 dX3_init_1 (by decide) (by decide) ?_
  refine k_al0 (pc := 4) K dX3_init_4 ?_
  refine k_new (pc := 5) (ci := 1) (fs := [.int 0, .int 0, .null, .null, .null]) K rfl inG_RX1 tyX1_ok kn_RX1 ki_RX1 kz_RX1 (fun j hj => by rcases (show j = 0 ∨ j = 1 ∨ j = 2 ∨ j = 3 ∨ j = 4 by omega) with rfl | rfl | rfl | rfl | rfl <;> rfl) dX3_init_5 (by decide) (by decide) (fun q1 hb1 => ?_)
  refine k_dup (pc := 8) K dX3_init_8 ?_
  refine k_callN (pc := 9) (host := "SliceColumns") K kc_RX1 (by decide +kernel) (k_X1 _ E base) hb1 (Nat.le_of_ble_eq_true rfl) (by decide) (by decide) (by decide) (by decide) dX3_init_9 (fun w1 hw1 => ?_)
  refine k_putF (pc := 12) K ff_RX3_14 rfl dX3_init_12 (Nat.le_of_ble_eq_true rfl) ?_
  refine k_al0 (pc := 15) K dX3_init_15 ?_
  refine k_ic (pc := 16) (v := 2) K dX3_init_16 (by decide) ?_
  refine k_anew (pc := 17) (N := 2) K kn_RX1 dX3_init_17 (by decide) (by decide) (by decide) (by decide) (by decide) (fun q2 => ?_)
  refine k_putF (pc := 20) K ff_RX3_18 rfl dX3_init_20 (Nat.le_of_ble_eq_true rfl) ?_
  refine k_al0 (pc := 23) K dX3_init_23 ?_
  refine k_new (pc := 24) (ci := 0) (fs := [.int 0, .null, .null, .null, .null]) K rfl inG_RX0 tyX0_ok kn_RX0 ki_RX0 kz_RX0 (fun j hj => by rcases (show j = 0 ∨ j = 1 ∨ j = 2 ∨ j = 3 ∨ j = 4 by omega) with rfl | rfl | rfl | rfl | rfl <;> rfl) dX3_init_24 (by decide) (by decide) (fun q3 hb3 => ?_)
  refine k_dup (pc := 27) K dX3_init_27 ?_
  refine k_callN (pc := 28) (host := "SliceColumns") K kc_RX0 (by decide +kernel) (k_X0 _ E base) hb3 (Nat.le_of_ble_eq_true rfl) (by decide) (by decide) (by decide) (by decide) dX3_init_28 (fun w3 hw3 => ?_)
  refine k_putF (pc := 31) K ff_RX3_25 rfl dX3_init_31 (Nat.le_of_ble_eq_true rfl) ?_
  refine k_al0 (pc := 34) K dX3_init_34 ?_
  refine k_new (pc := 35) (ci := 2) (fs := [.null]) K rfl inG_RX2 tyX2_ok kn_RX2 ki_RX2 kz_RX2 (fun j hj => by rcases (show j = 0 by omega) with rfl <;> rfl) dX3_init_35 (by decide) (by decide) (fun q4 hb4 => ?_)
  refine k_dup (pc := 38) K dX3_init_38 ?_
  refine k_callN (pc := 39) (host := "SliceColumns") K kc_RX2 (by decide +kernel) (k_X2 _ E base) hb4 (Nat.le_of_ble_eq_true rfl) (by decide) (by decide) (by decide) (by decide) dX3_init_39 (fun w4 hw4 => ?_)
  refine k_putF (pc := 42) K ff_RX3_32 rfl dX3_init_42 (Nat.le_of_ble_eq_true rfl) ?_
  refine k_al0 (pc := 45) K dX3_init_45 ?_
  refine k_ic (pc := 46) (v := 3) K dX3_init_46 (by decide) ?_
  refine k_newL (pc := 47) (N := 3) K ar_long dX3_init_47 (by decide) (by decide) (by decide) (by decide) (by decide) (fun q5 => ?_)
  refine k_putF (pc := 49) K ff_RX3_36 rfl dX3_init_49 (Nat.le_of_ble_eq_true rfl) ?_
  refine k_al0 (pc := 52) K dX3_init_52 ?_
  refine k_si (pc := 53) (v := 192) K dX3_init_53 (by decide) ?_
  refine k_newL (pc := 56) (N := 192) K ar_long dX3_init_56 (by decide) (by decide) (by decide) (by decide) (by decide) (fun q6 => ?_)
  refine k_putF (pc := 58) K ff_RX3_40 rfl dX3_init_58 (Nat.le_of_ble_eq_true rfl) ?_
  refine k_al0 (pc := 61) K dX3_init_61 ?_
  refine k_ic (pc := 62) (v := 0) K dX3_init_62 (by decide) ?_
  refine k_putI (pc := 63) K fw_RX3_43 dX3_init_63 (Nat.le_of_ble_eq_true rfl) ?_
  exact k_ret (pc := 66) K dX3_init_66 (by decide) (by decide) (fun H t ht hP hD hF => ⟨⟨_, rfl, ⟨q1, w1, q2, q3, w3, q4, w4, q5, q6, rfl, hw1, hw3, hw4⟩, by rw [ht]; exact hP, hD⟩, hF⟩)
