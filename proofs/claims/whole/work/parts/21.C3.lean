set_option maxRecDepth 100000 in
def c_X3_box (σ : St) (a0 : Int32) (a1 : Int32) (a2 : Int64) (a3 : Int64) (a4 : Int32) : Option (Except String Int32 × St) :=
  (xB (c_X3_needColumn σ a0) fun _ s2 => (xB (c_X3_needMask s2 a1) fun _ s6 => ((if a3 < (1 : Int64) then some (0 : Int32) else some (1 : Int32)).bind fun (t9 : Int32) => (xB (c_X3_needArgument s6 t9) fun _ s14 => ((if a4 < 0 then some (0 : Int32) else some (1 : Int32)).bind fun (t17 : Int32) => (xB (c_X3_needArgument s14 t17) fun _ s22 => ((c_X3_gather s22 a0 a1).bind fun v25 => ((c_X2_restart v25).bind fun v27 => ((c_X2_include v27 a2).bind fun v29 => ((c_X2_includeProduct v29 a3 ((a4).toInt64)).bind fun v31 => ((c_X2_isLong v31).bind fun v33 => (if v33 = 0 then some (.ok (0 : Int32), v31) else ((c_X2_asLong v31).bind fun v36 => ((c_X0_howMany v31 (4 : Int32) v36).bind fun v38 => ((c_X2_include v31 a3).bind fun v40 => ((c_X2_isLong v40).bind fun v42 => ((if v42 = 0 then some v38 else ((c_X2_asLong v40).bind fun v48 => ((c_X0_howMany v40 (4 : Int32) v48).bind fun v50 => some (v38 - v50)))).bind fun (t44 : Int32) => some (.ok t44, v40))))))))))))))))))
set_option maxHeartbeats 4000000 in
set_option maxRecDepth 100000 in
theorem t_X3_box (l : Launch) (hnt : l.stackTraces = false) {E : Ev} {base : Nat} (hE : Adr YC E base) (σ : St) (a0 : Int32) (a1 : Int32) (a2 : Int64) (a3 : Int64) (a4 : Int32) (r : Except String Int32) (σ' : St) (h : c_X3_box σ a0 a1 a2 a3 a4 = some (r, σ')) : Ctr l yX3_box cX3_box 9 (some .int) 7 121 YC E base [.ref (E.2.2 0), .int a0, .int a1, .long a2, .long a3, .int a4] σ (rI r) σ' := by
  unfold c_X3_box at h
  refine ofV 1 (by decide +kernel) rfl hE hnt (Nat.le_of_ble_eq_true rfl) rfl (fun M hN K => ?_)
  refine v_aload0 (pc := 0) K dX3_box_0 ?_
  refine v_iload1 (pc := 1) K dX3_box_1 ?_
  rcases xb h with ⟨v1, s2, h3, h⟩ | ⟨e4, s2, h3, hF⟩
  · refine v_cV1U (pc := 2) K ca_yX3_needColumn ml_RX3_66 (Nat.le_of_ble_eq_true rfl) rfl rfl (t_X3_needColumn _ K.nt K.ad σ a0 (.ok v1) s2 h3) (Nat.le_of_ble_eq_true rfl) (by decide) (by decide) dX3_box_2 ?_
    refine v_iload2 (pc := 5) K dX3_box_5 ?_
    rcases xb h with ⟨v5, s6, h7, h⟩ | ⟨e8, s6, h7, hF⟩
    · refine v_cS1U (pc := 6) K ca_yX3_needMask ml_RX3_125 (t_X3_needMask _ K.nt K.ad s2 a1 (.ok v5) s6 h7) (Nat.le_of_ble_eq_true rfl) (by decide) (by decide) dX3_box_6 ?_
      refine v_lload5 (pc := 9) K dX3_box_9 ?_
      refine v_lc1 (pc := 11) K dX3_box_11 ?_
      obtain ⟨t9, h11, h⟩ := bd h
      have hJ10 : V (mkX M YC E base 9 (rI r) σ') s6 21 [some (.ref (E.2.2 0)), some (.int a0), some (.int a1), some (.long a2), none, some (.long a3), none, some (.int a4), none] [.int t9] := by
        rcases xb h with ⟨v13, s14, h15, h⟩ | ⟨e16, s14, h15, hF⟩
        · refine v_cS1U (pc := 21) K ca_yX3_needArgument ml_RX3_73 (t_X3_needArgument _ K.nt K.ad s6 t9 (.ok v13) s14 h15) (Nat.le_of_ble_eq_true rfl) (by decide) (by decide) dX3_box_21 ?_
          refine v_iload7 (pc := 24) K dX3_box_24 ?_
          obtain ⟨t17, h19, h⟩ := bd h
          have hJ18 : V (mkX M YC E base 9 (rI r) σ') s14 34 [some (.ref (E.2.2 0)), some (.int a0), some (.int a1), some (.long a2), none, some (.long a3), none, some (.int a4), none] [.int t17] := by
            rcases xb h with ⟨v21, s22, h23, h⟩ | ⟨e24, s22, h23, hF⟩
            · refine v_cS1U (pc := 34) K ca_yX3_needArgument ml_RX3_73 (t_X3_needArgument _ K.nt K.ad s14 t17 (.ok v21) s22 h23) (Nat.le_of_ble_eq_true rfl) (by decide) (by decide) dX3_box_34 ?_
              refine v_aload0 (pc := 37) K dX3_box_37 ?_
              refine v_iload1 (pc := 38) K dX3_box_38 ?_
              refine v_iload2 (pc := 39) K dX3_box_39 ?_
              obtain ⟨v25, h26, h⟩ := bd h
              refine v_cV2U (pc := 40)  K ca_yX3_gather ml_RX3_166 (Nat.le_of_ble_eq_true rfl) rfl rfl (t_X3_gather _ K.nt K.ad s22 a0 a1 v25 h26) (Nat.le_of_ble_eq_true rfl) (by decide) (by decide) dX3_box_40 ?_
              refine v_aload0 (pc := 43) K dX3_box_43 ?_
              refine v_getR (pc := 44) K fl_RX3_32 dX3_box_44 (Nat.le_of_ble_eq_true rfl) rfl rfl ?_
              obtain ⟨v27, h28, h⟩ := bd h
              refine v_cV0U (pc := 47)  K ca_yX2_restart ml_RX3_213 (Nat.le_of_ble_eq_true rfl) rfl rfl (t_X2_restart _ K.nt K.ad v25 v27 h28) (Nat.le_of_ble_eq_true rfl) (by decide) (by decide) dX3_box_47 ?_
              refine v_aload0 (pc := 50) K dX3_box_50 ?_
              refine v_getR (pc := 51) K fl_RX3_32 dX3_box_51 (Nat.le_of_ble_eq_true rfl) rfl rfl ?_
              refine v_lload3 (pc := 54) K dX3_box_54 ?_
              obtain ⟨v29, h30, h⟩ := bd h
              refine v_cV1U (pc := 55)  K ca_yX2_include ml_RX3_228 (Nat.le_of_ble_eq_true rfl) rfl rfl (t_X2_include _ K.nt K.ad v27 a2 v29 h30) (Nat.le_of_ble_eq_true rfl) (by decide) (by decide) dX3_box_55 ?_
              refine v_aload0 (pc := 58) K dX3_box_58 ?_
              refine v_getR (pc := 59) K fl_RX3_32 dX3_box_59 (Nat.le_of_ble_eq_true rfl) rfl rfl ?_
              refine v_lload5 (pc := 62) K dX3_box_62 ?_
              refine v_iload7 (pc := 64) K dX3_box_64 ?_
              refine v_i2l (pc := 66) K dX3_box_66 ?_
              obtain ⟨v31, h32, h⟩ := bd h
              refine v_cV2U (pc := 67)  K ca_yX2_includeProduct ml_RX3_216 (Nat.le_of_ble_eq_true rfl) rfl rfl (t_X2_includeProduct _ K.nt K.ad v29 a3 ((a4).toInt64) v31 h32) (Nat.le_of_ble_eq_true rfl) (by decide) (by decide) dX3_box_67 ?_
              refine v_aload0 (pc := 70) K dX3_box_70 ?_
              refine v_getR (pc := 71) K fl_RX3_32 dX3_box_71 (Nat.le_of_ble_eq_true rfl) rfl rfl ?_
              obtain ⟨v33, h34, h⟩ := bd h
              refine v_cV0I (pc := 74)  K ca_yX2_isLong ml_RX3_245 (Nat.le_of_ble_eq_true rfl) rfl rfl (t_X2_isLong _ K.nt K.ad v31 v33 h34) (Nat.le_of_ble_eq_true rfl) (by decide) (by decide) dX3_box_74 ?_
              refine v_if_ne (pc := 77) (tgt := 82) K dX3_box_77 (by decide) (fun c35 => ?_) (fun c35 => ?_)
              · have h := ie c35 h
                refine v_aload0 (pc := 82) K dX3_box_82 ?_
                refine v_getR (pc := 83) K fl_RX3_25 dX3_box_83 (Nat.le_of_ble_eq_true rfl) rfl rfl ?_
                refine v_ic4 (pc := 86) K dX3_box_86 ?_
                refine v_aload0 (pc := 87) K dX3_box_87 ?_
                refine v_getR (pc := 88) K fl_RX3_32 dX3_box_88 (Nat.le_of_ble_eq_true rfl) rfl rfl ?_
                obtain ⟨v36, h37, h⟩ := bd h
                refine v_cV0L (pc := 91)  K ca_yX2_asLong ml_RX3_249 (Nat.le_of_ble_eq_true rfl) rfl rfl (t_X2_asLong _ K.nt K.ad v31 v36 h37) (Nat.le_of_ble_eq_true rfl) (by decide) (by decide) dX3_box_91 ?_
                obtain ⟨v38, h39, h⟩ := bd h
                refine v_cV2I (pc := 94)  K ca_yX0_howMany ml_RX3_209 (Nat.le_of_ble_eq_true rfl) rfl rfl (t_X0_howMany _ K.nt K.ad v31 (4 : Int32) v36 v38 h39) (Nat.le_of_ble_eq_true rfl) (by decide) (by decide) dX3_box_94 ?_
                refine v_istore8 (pc := 97) K dX3_box_97 rfl (Nat.le_of_ble_eq_true rfl) ?_
                refine v_aload0 (pc := 99) K dX3_box_99 ?_
                refine v_getR (pc := 100) K fl_RX3_32 dX3_box_100 (Nat.le_of_ble_eq_true rfl) rfl rfl ?_
                refine v_lload5 (pc := 103) K dX3_box_103 ?_
                obtain ⟨v40, h41, h⟩ := bd h
                refine v_cV1U (pc := 105)  K ca_yX2_include ml_RX3_228 (Nat.le_of_ble_eq_true rfl) rfl rfl (t_X2_include _ K.nt K.ad v31 a3 v40 h41) (Nat.le_of_ble_eq_true rfl) (by decide) (by decide) dX3_box_105 ?_
                refine v_aload0 (pc := 108) K dX3_box_108 ?_
                refine v_getR (pc := 109) K fl_RX3_32 dX3_box_109 (Nat.le_of_ble_eq_true rfl) rfl rfl ?_
                obtain ⟨v42, h43, h⟩ := bd h
                refine v_cV0I (pc := 112)  K ca_yX2_isLong ml_RX3_245 (Nat.le_of_ble_eq_true rfl) rfl rfl (t_X2_isLong _ K.nt K.ad v40 v42 h43) (Nat.le_of_ble_eq_true rfl) (by decide) (by decide) dX3_box_112 ?_
                obtain ⟨t44, h46, h⟩ := bd h
                have hJ45 : V (mkX M YC E base 9 (rI r) σ') v40 141 [none, none, none, none, none, none, none, none, none] [.int t44] := by
                  cases h
                  exact v_iret (pc := 141) K dX3_box_141 rfl rfl
                clear h
                have h := h46
                refine v_if_eq (pc := 115) (tgt := 139) K dX3_box_115 (by decide) (fun c47 => ?_) (fun c47 => ?_)
                · have h := it c47 h
                  refine v_iload8 (pc := 139) K dX3_box_139 ?_
                  cases h
                  exact (v_fg [false, false, false, false, true, false, true, false, false] hJ45)
                · have h := ie c47 h
                  refine v_iload8 (pc := 118) K dX3_box_118 ?_
                  refine v_aload0 (pc := 120) K dX3_box_120 ?_
                  refine v_getR (pc := 121) K fl_RX3_25 dX3_box_121 (Nat.le_of_ble_eq_true rfl) rfl rfl ?_
                  refine v_ic4 (pc := 124) K dX3_box_124 ?_
                  refine v_aload0 (pc := 125) K dX3_box_125 ?_
                  refine v_getR (pc := 126) K fl_RX3_32 dX3_box_126 (Nat.le_of_ble_eq_true rfl) rfl rfl ?_
                  obtain ⟨v48, h49, h⟩ := bd h
                  refine v_cV0L (pc := 129)  K ca_yX2_asLong ml_RX3_249 (Nat.le_of_ble_eq_true rfl) rfl rfl (t_X2_asLong _ K.nt K.ad v40 v48 h49) (Nat.le_of_ble_eq_true rfl) (by decide) (by decide) dX3_box_129 ?_
                  obtain ⟨v50, h51, h⟩ := bd h
                  refine v_cV2I (pc := 132)  K ca_yX0_howMany ml_RX3_209 (Nat.le_of_ble_eq_true rfl) rfl rfl (t_X0_howMany _ K.nt K.ad v40 (4 : Int32) v48 v50 h51) (Nat.le_of_ble_eq_true rfl) (by decide) (by decide) dX3_box_132 ?_
                  refine v_isub (pc := 135) K dX3_box_135 ?_
                  refine v_goto (pc := 136) (tgt := 141) K dX3_box_136 (by decide) ?_
                  cases h
                  exact (v_fg [false, false, false, false, true, false, true, false, false] hJ45)
              · have h := it c35 h
                refine v_ic0 (pc := 80) K dX3_box_80 ?_
                cases h
                exact v_iret (pc := 81) K dX3_box_81 rfl rfl
            · cases hF
              exact v_cS1X (pc := 34)  K ca_yX3_needArgument ml_RX3_73 (t_X3_needArgument _ K.nt K.ad s14 t17 (.error e24) _ h23) (Nat.le_of_ble_eq_true rfl) (by decide) (by decide) dX3_box_34 hN rfl rfl
          clear h
          have h := h19
          refine v_if_lt (pc := 26) (tgt := 33) K dX3_box_26 (by decide) (fun c20 => ?_) (fun c20 => ?_)
          · have h := it c20 h
            refine v_ic0 (pc := 33) K dX3_box_33 ?_
            cases h
            exact hJ18
          · have h := ie c20 h
            refine v_ic1 (pc := 29) K dX3_box_29 ?_
            refine v_goto (pc := 30) (tgt := 34) K dX3_box_30 (by decide) ?_
            cases h
            exact hJ18
        · cases hF
          exact v_cS1X (pc := 21)  K ca_yX3_needArgument ml_RX3_73 (t_X3_needArgument _ K.nt K.ad s6 t9 (.error e16) _ h15) (Nat.le_of_ble_eq_true rfl) (by decide) (by decide) dX3_box_21 hN rfl rfl
      clear h
      have h := h11
      refine v_lc_lt (pc := 12) (tgt := 20) K dX3_box_12 dX3_box_13 (by decide) (fun c12 => ?_) (fun c12 => ?_)
      · have h := it c12 h
        refine v_ic0 (pc := 20) K dX3_box_20 ?_
        cases h
        exact hJ10
      · have h := ie c12 h
        refine v_ic1 (pc := 16) K dX3_box_16 ?_
        refine v_goto (pc := 17) (tgt := 21) K dX3_box_17 (by decide) ?_
        cases h
        exact hJ10
    · cases hF
      exact v_cS1X (pc := 6)  K ca_yX3_needMask ml_RX3_125 (t_X3_needMask _ K.nt K.ad s2 a1 (.error e8) _ h7) (Nat.le_of_ble_eq_true rfl) (by decide) (by decide) dX3_box_6 hN rfl rfl
  · cases hF
    exact v_cV1X (pc := 2)  K ca_yX3_needColumn ml_RX3_66 (Nat.le_of_ble_eq_true rfl) rfl rfl (t_X3_needColumn _ K.nt K.ad σ a0 (.error e4) _ h3) (Nat.le_of_ble_eq_true rfl) (by decide) (by decide) dX3_box_2 hN rfl rfl
set_option maxRecDepth 100000 in
def c_X3_sumOrTooGreat (σ : St) (a0 : Int64) (a1 : Int64) : Option (Int64) :=
  ((if a1 < (((-4611686018427387904) : Int64) - a0) then some (0 : Int32) else (if ((4611686018427387903 : Int64) - a0) < a1 then some (0 : Int32) else some (1 : Int32))).bind fun (t1 : Int32) => ((if t1 = 0 then some (9223372036854775807 : Int64) else some (a0 + a1)).bind fun (t6 : Int64) => some t6))
set_option maxHeartbeats 4000000 in
set_option maxRecDepth 100000 in
theorem t_X3_sumOrTooGreat (l : Launch) (hnt : l.stackTraces = false) {E : Ev} {base : Nat} (hE : Adr YC E base) (σ : St) (a0 : Int64) (a1 : Int64) (r : Int64) (h : c_X3_sumOrTooGreat σ a0 a1 = some r) : Ctr l yX3_sumOrTooGreat cX3_sumOrTooGreat 5 (some .long) 0 0 YC E base [.long a0, .long a1] σ (.ok (some (.long r))) σ := by
  unfold c_X3_sumOrTooGreat at h
  refine ofV 1 (by decide +kernel) rfl hE hnt (Nat.le_of_ble_eq_true rfl) rfl (fun M hN K => ?_)
  refine v_lload2 (pc := 0) K dX3_sumOrTooGreat_0 ?_
  refine v_ldc2 (pc := 1) K dX3_sumOrTooGreat_1 cl_RX3_236 ?_
  refine v_lload0 (pc := 4) K dX3_sumOrTooGreat_4 ?_
  refine v_lsub (pc := 5) K dX3_sumOrTooGreat_5 ?_
  obtain ⟨t1, h3, h⟩ := bd h
  have hJ2 : V (mkX M YC E base 5 (.ok (some (.long r))) σ) σ 25 [some (.long a0), none, some (.long a1), none, none] [.int t1] := by
    refine v_istore4 (pc := 25) K dX3_sumOrTooGreat_25 rfl (Nat.le_of_ble_eq_true rfl) ?_
    refine v_iload4 (pc := 27) K dX3_sumOrTooGreat_27 ?_
    obtain ⟨t6, h8, h⟩ := bd h
    have hJ7 : V (mkX M YC E base 5 (.ok (some (.long r))) σ) σ 41 [none, none, none, none, none] [.long t6] := by
      cases h
      exact v_lret (pc := 41) K dX3_sumOrTooGreat_41 rfl rfl
    clear h
    have h := h8
    refine v_if_eq (pc := 29) (tgt := 38) K dX3_sumOrTooGreat_29 (by decide) (fun c9 => ?_) (fun c9 => ?_)
    · have h := it c9 h
      refine v_ldc2 (pc := 38) K dX3_sumOrTooGreat_38 cl_RX3_329 ?_
      cases h
      exact (v_fg [false, true, false, true, false] hJ7)
    · have h := ie c9 h
      refine v_lload0 (pc := 32) K dX3_sumOrTooGreat_32 ?_
      refine v_lload2 (pc := 33) K dX3_sumOrTooGreat_33 ?_
      refine v_ladd (pc := 34) K dX3_sumOrTooGreat_34 ?_
      refine v_goto (pc := 35) (tgt := 41) K dX3_sumOrTooGreat_35 (by decide) ?_
      cases h
      exact (v_fg [false, true, false, true, false] hJ7)
  clear h
  have h := h3
  refine v_lc_lt (pc := 6) (tgt := 24) K dX3_sumOrTooGreat_6 dX3_sumOrTooGreat_7 (by decide) (fun c4 => ?_) (fun c4 => ?_)
  · have h := it c4 h
    refine v_ic0 (pc := 24) K dX3_sumOrTooGreat_24 ?_
    cases h
    exact hJ2
  · have h := ie c4 h
    refine v_lload2 (pc := 10) K dX3_sumOrTooGreat_10 ?_
    refine v_ldc2 (pc := 11) K dX3_sumOrTooGreat_11 cl_RX3_238 ?_
    refine v_lload0 (pc := 14) K dX3_sumOrTooGreat_14 ?_
    refine v_lsub (pc := 15) K dX3_sumOrTooGreat_15 ?_
    refine v_lc_gt (pc := 16) (tgt := 24) K dX3_sumOrTooGreat_16 dX3_sumOrTooGreat_17 (by decide) (fun c5 => ?_) (fun c5 => ?_)
    · have h := it c5 h
      refine v_ic0 (pc := 24) K dX3_sumOrTooGreat_24 ?_
      cases h
      exact hJ2
    · have h := ie c5 h
      refine v_ic1 (pc := 20) K dX3_sumOrTooGreat_20 ?_
      refine v_goto (pc := 21) (tgt := 25) K dX3_sumOrTooGreat_21 (by decide) ?_
      cases h
      exact hJ2
set_option maxRecDepth 100000 in
def c_X3_come (σ : St) (a0 : Int32) : Option (Except String Int32 × St) :=
  ((lp 5000 (fun (s1 : Int32 × Int32) => (if σ.1 1 0 ≤ s1.2 then some (.inr s1.1) else ((if s1.1 = 0 then some (0 : Int32) else ((ix s1.2 192).bind fun j13 => (if σ.2 27 j13 = ((-9223372036854775808) : Int64) then some (1 : Int32) else ((ix a0 6).bind fun j16 => ((ix s1.2 192).bind fun j18 => ((c_X3_fits σ (σ.1 2 j16) (σ.2 27 j18)).bind fun v20 => (if v20 = 0 then some (0 : Int32) else some (1 : Int32)))))))).bind fun (t9 : Int32) => some (.inl (t9, (s1.2 + 1)))))) ((1 : Int32), (0 : Int32))).bind fun (r2 : Int32) => (xB (c_X3_needAct σ r2) fun _ s24 => ((lp 5000 (fun (s27 : Int32 × Int32 × St) => (if s27.2.2.1 1 0 ≤ s27.2.1 then some (.inr (s27.1, s27.2.2)) else ((ix a0 6).bind fun j35 => ((ix s27.2.1 192).bind fun j37 => ((ix s27.2.1 192).bind fun j39 => ((if s27.2.2.2 (4 + j35) j37 = s27.2.2.2 27 j39 then some (0 : Int32) else some (1 : Int32)).bind fun (t41 : Int32) => ((ix a0 6).bind fun j45 => ((ix s27.2.1 192).bind fun j47 => ((ix s27.2.1 192).bind fun j49 => some (.inl ((s27.1 + t41), (s27.2.1 + 1), (sL s27.2.2 (4 + j45) j49 (s27.2.2.2 27 j47))))))))))))) ((0 : Int32), (0 : Int32), s24)).bind fun (r28 : Int32 × St) => some (.ok r28.1, r28.2))))
set_option maxHeartbeats 4000000 in
set_option maxRecDepth 100000 in
theorem t_X3_come (l : Launch) (hnt : l.stackTraces = false) {E : Ev} {base : Nat} (hE : Adr YC E base) (σ : St) (a0 : Int32) (r : Except String Int32) (σ' : St) (h : c_X3_come σ a0 = some (r, σ')) : Ctr l yX3_come cX3_come 5 (some .int) 7 121 YC E base [.ref (E.2.2 0), .int a0] σ (rI r) σ' := by
  unfold c_X3_come at h
  refine ofV 3 (by decide +kernel) rfl hE hnt (Nat.le_of_ble_eq_true rfl) rfl (fun M hN K => ?_)
  refine v_ic1 (pc := 0) K dX3_come_0 ?_
  refine v_istore2 (pc := 1) K dX3_come_1 rfl (Nat.le_of_ble_eq_true rfl) ?_
  refine v_ic0 (pc := 2) K dX3_come_2 ?_
  refine v_istore3 (pc := 3) K dX3_come_3 rfl (Nat.le_of_ble_eq_true rfl) ?_
  obtain ⟨r2, h4, h⟩ := bd h
  have hJ3 : V (mkX M YC E base 5 (rI r) σ') σ 65 [some (.ref (E.2.2 0)), some (.int a0), some (.int r2), none, none] [] := by
    refine v_aload0 (pc := 65) K dX3_come_65 ?_
    refine v_iload2 (pc := 66) K dX3_come_66 ?_
    rcases xb h with ⟨v23, s24, h25, h⟩ | ⟨e26, s24, h25, hF⟩
    · refine v_cV1U (pc := 67) K ca_yX3_needAct ml_RX3_268 (Nat.le_of_ble_eq_true rfl) rfl rfl (t_X3_needAct _ K.nt K.ad σ r2 (.ok v23) s24 h25) (Nat.le_of_ble_eq_true rfl) (by decide) (by decide) dX3_come_67 ?_
      refine v_ic0 (pc := 70) K dX3_come_70 ?_
      refine v_istore3 (pc := 71) K dX3_come_71 rfl (Nat.le_of_ble_eq_true rfl) ?_
      refine v_ic0 (pc := 72) K dX3_come_72 ?_
      refine v_istore4 (pc := 73) K dX3_come_73 rfl (Nat.le_of_ble_eq_true rfl) ?_
      obtain ⟨r28, h30, h⟩ := bd h
      have hJ29 : V (mkX M YC E base 5 (rI r) σ') r28.2 143 [none, none, none, some (.int r28.1), none] [] := by
        refine v_iload3 (pc := 143) K dX3_come_143 ?_
        cases h
        exact v_iret (pc := 144) K dX3_come_144 rfl rfl
      clear h
      refine v_fg [true, true, false, true, true] ?_
      have hL51 := lpv h30 (fun s27 : Int32 × Int32 × St => V (mkX M YC E base 5 (rI r) σ') s27.2.2 75 [some (.ref (E.2.2 0)), some (.int a0), none, some (.int s27.1), some (.int s27.2.1)] [])
      refine hL51 (fun s27 o h hk => ?_)
      refine v_iload4 (pc := 75) K dX3_come_75 ?_
      refine v_aload0 (pc := 77) K dX3_come_77 ?_
      refine v_getR (pc := 78) K fl_RX3_14 dX3_come_78 (Nat.le_of_ble_eq_true rfl) rfl rfl ?_
      refine v_getI (pc := 81) K fl_RX3_76 dX3_come_81 (Nat.le_of_ble_eq_true rfl) rfl rfl ?_
      refine v_icmp_ge (pc := 84) (tgt := 143) K dX3_come_84 (by decide) (fun c34 => ?_) (fun c34 => ?_)
      · have h := it c34 h
        have e := lx h hk
        cases e
        exact v_fg [false, false, true, true, false] hJ29
      · have h := ie c34 h
        refine v_iload3 (pc := 87) K dX3_come_87 ?_
        refine v_aload0 (pc := 88) K dX3_come_88 ?_
        refine v_getR (pc := 89) K fl_RX3_14 dX3_come_89 (Nat.le_of_ble_eq_true rfl) rfl rfl ?_
        refine v_getR (pc := 92) K fl_RX3_86 dX3_come_92 (Nat.le_of_ble_eq_true rfl) rfl rfl ?_
        refine v_iload1 (pc := 95) K dX3_come_95 ?_
        obtain ⟨j35, h36, h⟩ := bd h
        refine v_aal (pc := 96) (b := 4) K dX3_come_96 (Nat.le_of_ble_eq_true rfl) rfl rfl h36 ?_
        refine v_iload4 (pc := 97) K dX3_come_97 ?_
        obtain ⟨j37, h38, h⟩ := bd h
        refine v_laload (pc := 99) K dX3_come_99 (rowC' (ix_lt h36)) (rowC (ix_lt h36)) h38 ?_
        refine v_aload0 (pc := 100) K dX3_come_100 ?_
        refine v_getR (pc := 101) K fl_RX3_40 dX3_come_101 (Nat.le_of_ble_eq_true rfl) rfl rfl ?_
        refine v_iload4 (pc := 104) K dX3_come_104 ?_
        obtain ⟨j39, h40, h⟩ := bd h
        refine v_laload (pc := 106) K dX3_come_106 (Nat.le_of_ble_eq_true rfl) rfl h40 ?_
        obtain ⟨t41, h43, h⟩ := bd h
        have hJ42 : V (mkX M YC E base 5 (rI r) σ') s27.2.2 116 [some (.ref (E.2.2 0)), some (.int a0), none, none, some (.int s27.2.1)] [.int t41, .int s27.1] := by
          refine v_iadd (pc := 116) K dX3_come_116 ?_
          refine v_istore3 (pc := 117) K dX3_come_117 rfl (Nat.le_of_ble_eq_true rfl) ?_
          refine v_aload0 (pc := 118) K dX3_come_118 ?_
          refine v_getR (pc := 119) K fl_RX3_14 dX3_come_119 (Nat.le_of_ble_eq_true rfl) rfl rfl ?_
          refine v_getR (pc := 122) K fl_RX3_86 dX3_come_122 (Nat.le_of_ble_eq_true rfl) rfl rfl ?_
          refine v_iload1 (pc := 125) K dX3_come_125 ?_
          obtain ⟨j45, h46, h⟩ := bd h
          refine v_aal (pc := 126) (b := 4) K dX3_come_126 (Nat.le_of_ble_eq_true rfl) rfl rfl h46 ?_
          refine v_iload4 (pc := 127) K dX3_come_127 ?_
          refine v_aload0 (pc := 129) K dX3_come_129 ?_
          refine v_getR (pc := 130) K fl_RX3_40 dX3_come_130 (Nat.le_of_ble_eq_true rfl) rfl rfl ?_
          refine v_iload4 (pc := 133) K dX3_come_133 ?_
          obtain ⟨j47, h48, h⟩ := bd h
          refine v_laload (pc := 135) K dX3_come_135 (Nat.le_of_ble_eq_true rfl) rfl h48 ?_
          obtain ⟨j49, h50, h⟩ := bd h
          refine v_lastore (pc := 136) K dX3_come_136 (rowC' (ix_lt h46)) (rowC (ix_lt h46)) h50 ?_
          refine v_iinc4 (pc := 137) (w := 1) K dX3_come_137 rfl (Nat.le_of_ble_eq_true rfl) (by decide) ?_
          refine v_goto (pc := 140) (tgt := 75) K dX3_come_140 (by decide) ?_
          have e := lfc h hk
          exact e
        clear h
        have h := h43
        refine v_lc_ne (pc := 107) (tgt := 115) K dX3_come_107 dX3_come_108 (by decide) (fun c44 => ?_) (fun c44 => ?_)
        · have h := ie c44 h
          refine v_ic1 (pc := 115) K dX3_come_115 ?_
          cases h
          exact (v_fg [true, true, true, false, true] hJ42)
        · have h := it c44 h
          refine v_ic0 (pc := 111) K dX3_come_111 ?_
          refine v_goto (pc := 112) (tgt := 116) K dX3_come_112 (by decide) ?_
          cases h
          exact (v_fg [true, true, true, false, true] hJ42)
    · cases hF
      exact v_cV1X (pc := 67)  K ca_yX3_needAct ml_RX3_268 (Nat.le_of_ble_eq_true rfl) rfl rfl (t_X3_needAct _ K.nt K.ad σ r2 (.error e26) _ h25) (Nat.le_of_ble_eq_true rfl) (by decide) (by decide) dX3_come_67 hN rfl rfl
  clear h
  have hL52 := lpv h4 (fun s1 : Int32 × Int32 => V (mkX M YC E base 5 (rI r) σ') σ 4 [some (.ref (E.2.2 0)), some (.int a0), some (.int s1.1), some (.int s1.2), none] [])
  refine hL52 (fun s1 o h hk => ?_)
  refine v_iload3 (pc := 4) K dX3_come_4 ?_
  refine v_aload0 (pc := 5) K dX3_come_5 ?_
  refine v_getR (pc := 6) K fl_RX3_14 dX3_come_6 (Nat.le_of_ble_eq_true rfl) rfl rfl ?_
  refine v_getI (pc := 9) K fl_RX3_76 dX3_come_9 (Nat.le_of_ble_eq_true rfl) rfl rfl ?_
  refine v_icmp_ge (pc := 12) (tgt := 65) K dX3_come_12 (by decide) (fun c8 => ?_) (fun c8 => ?_)
  · have h := it c8 h
    have e := lx h hk
    cases e
    exact v_fg [true, true, true, false, true] hJ3
  · have h := ie c8 h
    refine v_iload2 (pc := 15) K dX3_come_15 ?_
    obtain ⟨t9, h11, h⟩ := bd h
    have hJ10 : V (mkX M YC E base 5 (rI r) σ') σ 58 [some (.ref (E.2.2 0)), some (.int a0), none, some (.int s1.2), none] [.int t9] := by
      refine v_istore2 (pc := 58) K dX3_come_58 rfl (Nat.le_of_ble_eq_true rfl) ?_
      refine v_iinc3 (pc := 59) (w := 1) K dX3_come_59 rfl (Nat.le_of_ble_eq_true rfl) (by decide) ?_
      refine v_goto (pc := 62) (tgt := 4) K dX3_come_62 (by decide) ?_
      have e := lfc h hk
      exact e
    clear h
    have h := h11
    refine v_if_eq (pc := 16) (tgt := 57) K dX3_come_16 (by decide) (fun c12 => ?_) (fun c12 => ?_)
    · have h := it c12 h
      refine v_ic0 (pc := 57) K dX3_come_57 ?_
      cases h
      exact (v_fg [true, true, false, true, true] hJ10)
    · have h := ie c12 h
      refine v_aload0 (pc := 19) K dX3_come_19 ?_
      refine v_getR (pc := 20) K fl_RX3_40 dX3_come_20 (Nat.le_of_ble_eq_true rfl) rfl rfl ?_
      refine v_iload3 (pc := 23) K dX3_come_23 ?_
      obtain ⟨j13, h14, h⟩ := bd h
      refine v_laload (pc := 24) K dX3_come_24 (Nat.le_of_ble_eq_true rfl) rfl h14 ?_
      refine v_ldc2 (pc := 25) K dX3_come_25 cl_RX3_90 ?_
      refine v_lc_eq (pc := 28) (tgt := 53) K dX3_come_28 dX3_come_29 (by decide) (fun c15 => ?_) (fun c15 => ?_)
      · have h := it c15 h
        refine v_ic1 (pc := 53) K dX3_come_53 ?_
        refine v_goto (pc := 54) (tgt := 58) K dX3_come_54 (by decide) ?_
        cases h
        exact (v_fg [true, true, false, true, true] hJ10)
      · have h := ie c15 h
        refine v_aload0 (pc := 32) K dX3_come_32 ?_
        refine v_getR (pc := 33) K fl_RX3_14 dX3_come_33 (Nat.le_of_ble_eq_true rfl) rfl rfl ?_
        refine v_getR (pc := 36) K fl_RX3_58 dX3_come_36 (Nat.le_of_ble_eq_true rfl) rfl rfl ?_
        refine v_iload1 (pc := 39) K dX3_come_39 ?_
        obtain ⟨j16, h17, h⟩ := bd h
        refine v_iaload (pc := 40) K dX3_come_40 (Nat.le_of_ble_eq_true rfl) rfl h17 ?_
        refine v_aload0 (pc := 41) K dX3_come_41 ?_
        refine v_getR (pc := 42) K fl_RX3_40 dX3_come_42 (Nat.le_of_ble_eq_true rfl) rfl rfl ?_
        refine v_iload3 (pc := 45) K dX3_come_45 ?_
        obtain ⟨j18, h19, h⟩ := bd h
        refine v_laload (pc := 46) K dX3_come_46 (Nat.le_of_ble_eq_true rfl) rfl h19 ?_
        obtain ⟨v20, h21, h⟩ := bd h
        refine v_cS2I (pc := 47)  K ca_yX3_fits ml_RX3_323 (t_X3_fits _ K.nt K.ad σ (σ.1 2 j16) (σ.2 27 j18) v20 h21) (Nat.le_of_ble_eq_true rfl) (by decide) (by decide) dX3_come_47 ?_
        refine v_if_eq (pc := 50) (tgt := 57) K dX3_come_50 (by decide) (fun c22 => ?_) (fun c22 => ?_)
        · have h := it c22 h
          refine v_ic0 (pc := 57) K dX3_come_57 ?_
          cases h
          exact (v_fg [true, true, false, true, true] hJ10)
        · have h := ie c22 h
          refine v_ic1 (pc := 53) K dX3_come_53 ?_
          refine v_goto (pc := 54) (tgt := 58) K dX3_come_54 (by decide) ?_
          cases h
          exact (v_fg [true, true, false, true, true] hJ10)
set_option maxRecDepth 100000 in
def c_X3_add (σ : St) (a0 : Int32) (a1 : Int64) (a2 : Int32) : Option (Except String Int32 × St) :=
  (xB (c_X3_needColumn σ a0) fun _ s2 => (xB (c_X3_needMask s2 a2) fun _ s6 => ((c_X3_expectAsItIs s6 a0).bind fun v9 => ((lp 5000 (fun (s11 : Int32 × Int32 × St) => (if s11.2.2.1 1 0 ≤ s11.2.1 then some (.inr (s11.1, s11.2.2)) else ((c_X1_isNumbered s11.2.2 a0 s11.2.1 a2).bind fun v19 => ((if v19 = 0 then some (s11.1, s11.2.2) else ((ix a0 6).bind fun j25 => ((ix s11.2.1 192).bind fun j27 => ((c_X3_sumOrTooGreat s11.2.2 (s11.2.2.2 (4 + j25) j27) a1).bind fun v29 => ((ix s11.2.1 192).bind fun j31 => some ((s11.1 + 1), (sL s11.2.2 27 j31 v29))))))).bind fun (t21 : Int32 × St) => some (.inl (t21.1, (s11.2.1 + 1), t21.2)))))) ((0 : Int32), (0 : Int32), v9)).bind fun (r12 : Int32 × St) => (xB (c_X3_come r12.2 a0) fun v33 s34 => some (.ok r12.1, s34))))))
set_option maxHeartbeats 4000000 in
set_option maxRecDepth 100000 in
theorem t_X3_add (l : Launch) (hnt : l.stackTraces = false) {E : Ev} {base : Nat} (hE : Adr YC E base) (σ : St) (a0 : Int32) (a1 : Int64) (a2 : Int32) (r : Except String Int32) (σ' : St) (h : c_X3_add σ a0 a1 a2 = some (r, σ')) : Ctr l yX3_add cX3_add 7 (some .int) 8 145 YC E base [.ref (E.2.2 0), .int a0, .long a1, .int a2] σ (rI r) σ' := by
  unfold c_X3_add at h
  refine ofV 2 (by decide +kernel) rfl hE hnt (Nat.le_of_ble_eq_true rfl) rfl (fun M hN K => ?_)
  refine v_aload0 (pc := 0) K dX3_add_0 ?_
  refine v_iload1 (pc := 1) K dX3_add_1 ?_
  rcases xb h with ⟨v1, s2, h3, h⟩ | ⟨e4, s2, h3, hF⟩
  · refine v_cV1U (pc := 2) K ca_yX3_needColumn ml_RX3_66 (Nat.le_of_ble_eq_true rfl) rfl rfl (t_X3_needColumn _ K.nt K.ad σ a0 (.ok v1) s2 h3) (Nat.le_of_ble_eq_true rfl) (by decide) (by decide) dX3_add_2 ?_
    refine v_iload4 (pc := 5) K dX3_add_5 ?_
    rcases xb h with ⟨v5, s6, h7, h⟩ | ⟨e8, s6, h7, hF⟩
    · refine v_cS1U (pc := 7) K ca_yX3_needMask ml_RX3_125 (t_X3_needMask _ K.nt K.ad s2 a2 (.ok v5) s6 h7) (Nat.le_of_ble_eq_true rfl) (by decide) (by decide) dX3_add_7 ?_
      refine v_aload0 (pc := 10) K dX3_add_10 ?_
      refine v_iload1 (pc := 11) K dX3_add_11 ?_
      obtain ⟨v9, h10, h⟩ := bd h
      refine v_cV1U (pc := 12)  K ca_yX3_expectAsItIs ml_RX3_252 (Nat.le_of_ble_eq_true rfl) rfl rfl (t_X3_expectAsItIs _ K.nt K.ad s6 a0 v9 h10) (Nat.le_of_ble_eq_true rfl) (by decide) (by decide) dX3_add_12 ?_
      refine v_ic0 (pc := 15) K dX3_add_15 ?_
      refine v_istore5 (pc := 16) K dX3_add_16 rfl (Nat.le_of_ble_eq_true rfl) ?_
      refine v_ic0 (pc := 18) K dX3_add_18 ?_
      refine v_istore6 (pc := 19) K dX3_add_19 rfl (Nat.le_of_ble_eq_true rfl) ?_
      obtain ⟨r12, h14, h⟩ := bd h
      have hJ13 : V (mkX M YC E base 7 (rI r) σ') r12.2 80 [some (.ref (E.2.2 0)), some (.int a0), none, none, none, some (.int r12.1), none] [] := by
        refine v_aload0 (pc := 80) K dX3_add_80 ?_
        refine v_iload1 (pc := 81) K dX3_add_81 ?_
        rcases xb h with ⟨v33, s34, h35, h⟩ | ⟨e36, s34, h35, hF⟩
        · refine v_cV1I (pc := 82) K ca_yX3_come ml_RX3_258 (Nat.le_of_ble_eq_true rfl) rfl rfl (t_X3_come _ K.nt K.ad r12.2 a0 (.ok v33) s34 h35) (Nat.le_of_ble_eq_true rfl) (by decide) (by decide) dX3_add_82 ?_
          refine v_popI (pc := 85) K dX3_add_85 ?_
          refine v_iload5 (pc := 86) K dX3_add_86 ?_
          cases h
          exact v_iret (pc := 88) K dX3_add_88 rfl rfl
        · cases hF
          exact v_cV1X (pc := 82)  K ca_yX3_come ml_RX3_258 (Nat.le_of_ble_eq_true rfl) rfl rfl (t_X3_come _ K.nt K.ad r12.2 a0 (.error e36) _ h35) (Nat.le_of_ble_eq_true rfl) (by decide) (by decide) dX3_add_82 hN rfl rfl
      clear h
      have hL37 := lpv h14 (fun s11 : Int32 × Int32 × St => V (mkX M YC E base 7 (rI r) σ') s11.2.2 21 [some (.ref (E.2.2 0)), some (.int a0), some (.long a1), none, some (.int a2), some (.int s11.1), some (.int s11.2.1)] [])
      refine hL37 (fun s11 o h hk => ?_)
      refine v_iload6 (pc := 21) K dX3_add_21 ?_
      refine v_aload0 (pc := 23) K dX3_add_23 ?_
      refine v_getR (pc := 24) K fl_RX3_14 dX3_add_24 (Nat.le_of_ble_eq_true rfl) rfl rfl ?_
      refine v_getI (pc := 27) K fl_RX3_76 dX3_add_27 (Nat.le_of_ble_eq_true rfl) rfl rfl ?_
      refine v_icmp_ge (pc := 30) (tgt := 80) K dX3_add_30 (by decide) (fun c18 => ?_) (fun c18 => ?_)
      · have h := it c18 h
        have e := lx h hk
        cases e
        exact v_fg [true, true, false, true, false, true, false] hJ13
      · have h := ie c18 h
        refine v_aload0 (pc := 33) K dX3_add_33 ?_
        refine v_getR (pc := 34) K fl_RX3_14 dX3_add_34 (Nat.le_of_ble_eq_true rfl) rfl rfl ?_
        refine v_iload1 (pc := 37) K dX3_add_37 ?_
        refine v_iload6 (pc := 38) K dX3_add_38 ?_
        refine v_iload4 (pc := 40) K dX3_add_40 ?_
        obtain ⟨v19, h20, h⟩ := bd h
        refine v_cV3I (pc := 42)  K ca_yX1_isNumbered ml_RX3_150 (Nat.le_of_ble_eq_true rfl) rfl rfl (t_X1_isNumbered _ K.nt K.ad s11.2.2 a0 s11.2.1 a2 v19 h20) (Nat.le_of_ble_eq_true rfl) (by decide) (by decide) dX3_add_42 ?_
        obtain ⟨t21, h23, h⟩ := bd h
        have hJ22 : V (mkX M YC E base 7 (rI r) σ') t21.2 74 [some (.ref (E.2.2 0)), some (.int a0), some (.long a1), none, some (.int a2), some (.int t21.1), some (.int s11.2.1)] [] := by
          refine v_iinc6 (pc := 74) (w := 1) K dX3_add_74 rfl (Nat.le_of_ble_eq_true rfl) (by decide) ?_
          refine v_goto (pc := 77) (tgt := 21) K dX3_add_77 (by decide) ?_
          have e := lfc h hk
          exact e
        clear h
        have h := h23
        refine v_if_eq (pc := 45) (tgt := 74) K dX3_add_45 (by decide) (fun c24 => ?_) (fun c24 => ?_)
        · have h := it c24 h
          cases h
          exact hJ22
        · have h := ie c24 h
          refine v_aload0 (pc := 48) K dX3_add_48 ?_
          refine v_getR (pc := 49) K fl_RX3_40 dX3_add_49 (Nat.le_of_ble_eq_true rfl) rfl rfl ?_
          refine v_iload6 (pc := 52) K dX3_add_52 ?_
          refine v_aload0 (pc := 54) K dX3_add_54 ?_
          refine v_getR (pc := 55) K fl_RX3_14 dX3_add_55 (Nat.le_of_ble_eq_true rfl) rfl rfl ?_
          refine v_getR (pc := 58) K fl_RX3_86 dX3_add_58 (Nat.le_of_ble_eq_true rfl) rfl rfl ?_
          refine v_iload1 (pc := 61) K dX3_add_61 ?_
          obtain ⟨j25, h26, h⟩ := bd h
          refine v_aal (pc := 62) (b := 4) K dX3_add_62 (Nat.le_of_ble_eq_true rfl) rfl rfl h26 ?_
          refine v_iload6 (pc := 63) K dX3_add_63 ?_
          obtain ⟨j27, h28, h⟩ := bd h
          refine v_laload (pc := 65) K dX3_add_65 (rowC' (ix_lt h26)) (rowC (ix_lt h26)) h28 ?_
          refine v_lload2 (pc := 66) K dX3_add_66 ?_
          obtain ⟨v29, h30, h⟩ := bd h
          refine v_cS2L (pc := 67)  K ca_yX3_sumOrTooGreat ml_RX3_255 (t_X3_sumOrTooGreat _ K.nt K.ad s11.2.2 (s11.2.2.2 (4 + j25) j27) a1 v29 h30) (Nat.le_of_ble_eq_true rfl) (by decide) (by decide) dX3_add_67 ?_
          obtain ⟨j31, h32, h⟩ := bd h
          refine v_lastore (pc := 70) K dX3_add_70 (Nat.le_of_ble_eq_true rfl) rfl h32 ?_
          refine v_iinc5 (pc := 71) (w := 1) K dX3_add_71 rfl (Nat.le_of_ble_eq_true rfl) (by decide) ?_
          cases h
          exact hJ22
    · cases hF
      exact v_cS1X (pc := 7)  K ca_yX3_needMask ml_RX3_125 (t_X3_needMask _ K.nt K.ad s2 a2 (.error e8) _ h7) (Nat.le_of_ble_eq_true rfl) (by decide) (by decide) dX3_add_7 hN rfl rfl
  · cases hF
    exact v_cV1X (pc := 2)  K ca_yX3_needColumn ml_RX3_66 (Nat.le_of_ble_eq_true rfl) rfl rfl (t_X3_needColumn _ K.nt K.ad σ a0 (.error e4) _ h3) (Nat.le_of_ble_eq_true rfl) (by decide) (by decide) dX3_add_2 hN rfl rfl
set_option maxRecDepth 100000 in
def c_X3_plus (σ : St) (a0 : Int32) (a1 : Int32) (a2 : Int32) (a3 : Int32) : Option (Except String Int32 × St) :=
  (xB (c_X3_needColumn σ a0) fun _ s2 => (xB (c_X3_needColumn s2 a1) fun _ s6 => (xB (c_X3_needMask s6 a3) fun _ s10 => ((c_X3_expectAsItIs s10 a0).bind fun v13 => ((lp 5000 (fun (s15 : Int32 × Int32 × St) => (if s15.2.2.1 1 0 ≤ s15.2.1 then some (.inr (s15.1, s15.2.2)) else ((c_X1_areBothNumbered s15.2.2 a0 a1 s15.2.1 a3).bind fun v23 => ((if v23 = 0 then some (s15.1, s15.2.2) else ((ix a1 6).bind fun j29 => ((ix s15.2.1 192).bind fun j31 => ((ix a0 6).bind fun j33 => ((ix s15.2.1 192).bind fun j35 => ((if a2 = 0 then some (s15.2.2.2 (4 + j29) j31) else some (-(s15.2.2.2 (4 + j29) j31))).bind fun (t37 : Int64) => ((c_X3_sumOrTooGreat s15.2.2 (s15.2.2.2 (4 + j33) j35) t37).bind fun v41 => ((ix s15.2.1 192).bind fun j43 => some ((s15.1 + 1), (sL s15.2.2 27 j43 v41)))))))))).bind fun (t25 : Int32 × St) => some (.inl (t25.1, (s15.2.1 + 1), t25.2)))))) ((0 : Int32), (0 : Int32), v13)).bind fun (r16 : Int32 × St) => (xB (c_X3_come r16.2 a0) fun v45 s46 => some (.ok r16.1, s46)))))))
set_option maxHeartbeats 4000000 in
set_option maxRecDepth 100000 in
theorem t_X3_plus (l : Launch) (hnt : l.stackTraces = false) {E : Ev} {base : Nat} (hE : Adr YC E base) (σ : St) (a0 : Int32) (a1 : Int32) (a2 : Int32) (a3 : Int32) (r : Except String Int32) (σ' : St) (h : c_X3_plus σ a0 a1 a2 a3 = some (r, σ')) : Ctr l yX3_plus cX3_plus 9 (some .int) 8 145 YC E base [.ref (E.2.2 0), .int a0, .int a1, .int a2, .int a3] σ (rI r) σ' := by
  unfold c_X3_plus at h
  refine ofV 4 (by decide +kernel) rfl hE hnt (Nat.le_of_ble_eq_true rfl) rfl (fun M hN K => ?_)
  refine v_aload0 (pc := 0) K dX3_plus_0 ?_
  refine v_iload1 (pc := 1) K dX3_plus_1 ?_
  rcases xb h with ⟨v1, s2, h3, h⟩ | ⟨e4, s2, h3, hF⟩
  · refine v_cV1U (pc := 2) K ca_yX3_needColumn ml_RX3_66 (Nat.le_of_ble_eq_true rfl) rfl rfl (t_X3_needColumn _ K.nt K.ad σ a0 (.ok v1) s2 h3) (Nat.le_of_ble_eq_true rfl) (by decide) (by decide) dX3_plus_2 ?_
    refine v_aload0 (pc := 5) K dX3_plus_5 ?_
    refine v_iload2 (pc := 6) K dX3_plus_6 ?_
    rcases xb h with ⟨v5, s6, h7, h⟩ | ⟨e8, s6, h7, hF⟩
    · refine v_cV1U (pc := 7) K ca_yX3_needColumn ml_RX3_66 (Nat.le_of_ble_eq_true rfl) rfl rfl (t_X3_needColumn _ K.nt K.ad s2 a1 (.ok v5) s6 h7) (Nat.le_of_ble_eq_true rfl) (by decide) (by decide) dX3_plus_7 ?_
      refine v_iload4 (pc := 10) K dX3_plus_10 ?_
      rcases xb h with ⟨v9, s10, h11, h⟩ | ⟨e12, s10, h11, hF⟩
      · refine v_cS1U (pc := 12) K ca_yX3_needMask ml_RX3_125 (t_X3_needMask _ K.nt K.ad s6 a3 (.ok v9) s10 h11) (Nat.le_of_ble_eq_true rfl) (by decide) (by decide) dX3_plus_12 ?_
        refine v_aload0 (pc := 15) K dX3_plus_15 ?_
        refine v_iload1 (pc := 16) K dX3_plus_16 ?_
        obtain ⟨v13, h14, h⟩ := bd h
        refine v_cV1U (pc := 17)  K ca_yX3_expectAsItIs ml_RX3_252 (Nat.le_of_ble_eq_true rfl) rfl rfl (t_X3_expectAsItIs _ K.nt K.ad s10 a0 v13 h14) (Nat.le_of_ble_eq_true rfl) (by decide) (by decide) dX3_plus_17 ?_
        refine v_ic0 (pc := 20) K dX3_plus_20 ?_
        refine v_istore5 (pc := 21) K dX3_plus_21 rfl (Nat.le_of_ble_eq_true rfl) ?_
        refine v_ic0 (pc := 23) K dX3_plus_23 ?_
        refine v_istore6 (pc := 24) K dX3_plus_24 rfl (Nat.le_of_ble_eq_true rfl) ?_
        obtain ⟨r16, h18, h⟩ := bd h
        have hJ17 : V (mkX M YC E base 9 (rI r) σ') r16.2 111 [some (.ref (E.2.2 0)), some (.int a0), none, none, none, some (.int r16.1), none, none, none] [] := by
          refine v_aload0 (pc := 111) K dX3_plus_111 ?_
          refine v_iload1 (pc := 112) K dX3_plus_112 ?_
          rcases xb h with ⟨v45, s46, h47, h⟩ | ⟨e48, s46, h47, hF⟩
          · refine v_cV1I (pc := 113) K ca_yX3_come ml_RX3_258 (Nat.le_of_ble_eq_true rfl) rfl rfl (t_X3_come _ K.nt K.ad r16.2 a0 (.ok v45) s46 h47) (Nat.le_of_ble_eq_true rfl) (by decide) (by decide) dX3_plus_113 ?_
            refine v_popI (pc := 116) K dX3_plus_116 ?_
            refine v_iload5 (pc := 117) K dX3_plus_117 ?_
            cases h
            exact v_iret (pc := 119) K dX3_plus_119 rfl rfl
          · cases hF
            exact v_cV1X (pc := 113)  K ca_yX3_come ml_RX3_258 (Nat.le_of_ble_eq_true rfl) rfl rfl (t_X3_come _ K.nt K.ad r16.2 a0 (.error e48) _ h47) (Nat.le_of_ble_eq_true rfl) (by decide) (by decide) dX3_plus_113 hN rfl rfl
        clear h
        have hL49 := lpv h18 (fun s15 : Int32 × Int32 × St => V (mkX M YC E base 9 (rI r) σ') s15.2.2 26 [some (.ref (E.2.2 0)), some (.int a0), some (.int a1), some (.int a2), some (.int a3), some (.int s15.1), some (.int s15.2.1), none, none] [])
        refine hL49 (fun s15 o h hk => ?_)
        refine v_iload6 (pc := 26) K dX3_plus_26 ?_
        refine v_aload0 (pc := 28) K dX3_plus_28 ?_
        refine v_getR (pc := 29) K fl_RX3_14 dX3_plus_29 (Nat.le_of_ble_eq_true rfl) rfl rfl ?_
        refine v_getI (pc := 32) K fl_RX3_76 dX3_plus_32 (Nat.le_of_ble_eq_true rfl) rfl rfl ?_
        refine v_icmp_ge (pc := 35) (tgt := 111) K dX3_plus_35 (by decide) (fun c22 => ?_) (fun c22 => ?_)
        · have h := it c22 h
          have e := lx h hk
          cases e
          exact v_fg [true, true, false, false, false, true, false, true, true] hJ17
        · have h := ie c22 h
          refine v_aload0 (pc := 38) K dX3_plus_38 ?_
          refine v_getR (pc := 39) K fl_RX3_14 dX3_plus_39 (Nat.le_of_ble_eq_true rfl) rfl rfl ?_
          refine v_iload1 (pc := 42) K dX3_plus_42 ?_
          refine v_iload2 (pc := 43) K dX3_plus_43 ?_
          refine v_iload6 (pc := 44) K dX3_plus_44 ?_
          refine v_iload4 (pc := 46) K dX3_plus_46 ?_
          obtain ⟨v23, h24, h⟩ := bd h
          refine v_cV4I (pc := 48)  K ca_yX1_areBothNumbered ml_RX3_158 (Nat.le_of_ble_eq_true rfl) rfl rfl (t_X1_areBothNumbered _ K.nt K.ad s15.2.2 a0 a1 s15.2.1 a3 v23 h24) (Nat.le_of_ble_eq_true rfl) (by decide) (by decide) dX3_plus_48 ?_
          obtain ⟨t25, h27, h⟩ := bd h
          have hJ26 : V (mkX M YC E base 9 (rI r) σ') t25.2 105 [some (.ref (E.2.2 0)), some (.int a0), some (.int a1), some (.int a2), some (.int a3), some (.int t25.1), some (.int s15.2.1), none, none] [] := by
            refine v_iinc6 (pc := 105) (w := 1) K dX3_plus_105 rfl (Nat.le_of_ble_eq_true rfl) (by decide) ?_
            refine v_goto (pc := 108) (tgt := 26) K dX3_plus_108 (by decide) ?_
            have e := lfc h hk
            exact e
          clear h
          have h := h27
          refine v_if_eq (pc := 51) (tgt := 105) K dX3_plus_51 (by decide) (fun c28 => ?_) (fun c28 => ?_)
          · have h := it c28 h
            cases h
            exact hJ26
          · have h := ie c28 h
            refine v_aload0 (pc := 54) K dX3_plus_54 ?_
            refine v_getR (pc := 55) K fl_RX3_14 dX3_plus_55 (Nat.le_of_ble_eq_true rfl) rfl rfl ?_
            refine v_getR (pc := 58) K fl_RX3_86 dX3_plus_58 (Nat.le_of_ble_eq_true rfl) rfl rfl ?_
            refine v_iload2 (pc := 61) K dX3_plus_61 ?_
            obtain ⟨j29, h30, h⟩ := bd h
            refine v_aal (pc := 62) (b := 4) K dX3_plus_62 (Nat.le_of_ble_eq_true rfl) rfl rfl h30 ?_
            refine v_iload6 (pc := 63) K dX3_plus_63 ?_
            obtain ⟨j31, h32, h⟩ := bd h
            refine v_laload (pc := 65) K dX3_plus_65 (rowC' (ix_lt h30)) (rowC (ix_lt h30)) h32 ?_
            refine v_lstore7 (pc := 66) K dX3_plus_66 rfl (Nat.le_of_ble_eq_true rfl) ?_
            refine v_aload0 (pc := 68) K dX3_plus_68 ?_
            refine v_getR (pc := 69) K fl_RX3_40 dX3_plus_69 (Nat.le_of_ble_eq_true rfl) rfl rfl ?_
            refine v_iload6 (pc := 72) K dX3_plus_72 ?_
            refine v_aload0 (pc := 74) K dX3_plus_74 ?_
            refine v_getR (pc := 75) K fl_RX3_14 dX3_plus_75 (Nat.le_of_ble_eq_true rfl) rfl rfl ?_
            refine v_getR (pc := 78) K fl_RX3_86 dX3_plus_78 (Nat.le_of_ble_eq_true rfl) rfl rfl ?_
            refine v_iload1 (pc := 81) K dX3_plus_81 ?_
            obtain ⟨j33, h34, h⟩ := bd h
            refine v_aal (pc := 82) (b := 4) K dX3_plus_82 (Nat.le_of_ble_eq_true rfl) rfl rfl h34 ?_
            refine v_iload6 (pc := 83) K dX3_plus_83 ?_
            obtain ⟨j35, h36, h⟩ := bd h
            refine v_laload (pc := 85) K dX3_plus_85 (rowC' (ix_lt h34)) (rowC (ix_lt h34)) h36 ?_
            refine v_iload3 (pc := 86) K dX3_plus_86 ?_
            obtain ⟨t37, h39, h⟩ := bd h
            have hJ38 : V (mkX M YC E base 9 (rI r) σ') s15.2.2 98 [some (.ref (E.2.2 0)), some (.int a0), some (.int a1), some (.int a2), some (.int a3), some (.int s15.1), some (.int s15.2.1), none, none] [.long t37, .long (s15.2.2.2 (4 + j33) j35), .int s15.2.1, .ref (E.2.2 27)] := by
              obtain ⟨v41, h42, h⟩ := bd h
              refine v_cS2L (pc := 98)  K ca_yX3_sumOrTooGreat ml_RX3_255 (t_X3_sumOrTooGreat _ K.nt K.ad s15.2.2 (s15.2.2.2 (4 + j33) j35) t37 v41 h42) (Nat.le_of_ble_eq_true rfl) (by decide) (by decide) dX3_plus_98 ?_
              obtain ⟨j43, h44, h⟩ := bd h
              refine v_lastore (pc := 101) K dX3_plus_101 (Nat.le_of_ble_eq_true rfl) rfl h44 ?_
              refine v_iinc5 (pc := 102) (w := 1) K dX3_plus_102 rfl (Nat.le_of_ble_eq_true rfl) (by decide) ?_
              cases h
              exact hJ26
            clear h
            have h := h39
            refine v_if_eq (pc := 87) (tgt := 96) K dX3_plus_87 (by decide) (fun c40 => ?_) (fun c40 => ?_)
            · have h := it c40 h
              refine v_lload7 (pc := 96) K dX3_plus_96 ?_
              cases h
              exact (v_fg [true, true, true, true, true, true, true, false, true] hJ38)
            · have h := ie c40 h
              refine v_lload7 (pc := 90) K dX3_plus_90 ?_
              refine v_lneg (pc := 92) K dX3_plus_92 ?_
              refine v_goto (pc := 93) (tgt := 98) K dX3_plus_93 (by decide) ?_
              cases h
              exact (v_fg [true, true, true, true, true, true, true, false, true] hJ38)
      · cases hF
        exact v_cS1X (pc := 12)  K ca_yX3_needMask ml_RX3_125 (t_X3_needMask _ K.nt K.ad s6 a3 (.error e12) _ h11) (Nat.le_of_ble_eq_true rfl) (by decide) (by decide) dX3_plus_12 hN rfl rfl
    · cases hF
      exact v_cV1X (pc := 7)  K ca_yX3_needColumn ml_RX3_66 (Nat.le_of_ble_eq_true rfl) rfl rfl (t_X3_needColumn _ K.nt K.ad s2 a1 (.error e8) _ h7) (Nat.le_of_ble_eq_true rfl) (by decide) (by decide) dX3_plus_7 hN rfl rfl
  · cases hF
    exact v_cV1X (pc := 2)  K ca_yX3_needColumn ml_RX3_66 (Nat.le_of_ble_eq_true rfl) rfl rfl (t_X3_needColumn _ K.nt K.ad σ a0 (.error e4) _ h3) (Nat.le_of_ble_eq_true rfl) (by decide) (by decide) dX3_plus_2 hN rfl rfl
set_option maxRecDepth 100000 in
def c_X3_productOrTooGreat (σ : St) (a0 : Int64) (a1 : Int32) : Option (Int64) :=
  (if a1 = 0 then some (0 : Int64) else ((c_J9_abs_0f7a4 σ a1).bind fun v2 => (if (v2).toInt64 = 0 then none else ((c_J9_abs_067f4 σ a0).bind fun v5 => ((if ((4611686018427387904 : Int64) / (v2).toInt64) < v5 then some (9223372036854775807 : Int64) else some (a0 * (a1).toInt64)).bind fun (t7 : Int64) => some t7)))))
set_option maxHeartbeats 4000000 in
set_option maxRecDepth 100000 in
theorem t_X3_productOrTooGreat (l : Launch) (hnt : l.stackTraces = false) {E : Ev} {base : Nat} (hE : Adr YC E base) (σ : St) (a0 : Int64) (a1 : Int32) (r : Int64) (h : c_X3_productOrTooGreat σ a0 a1 = some r) : Ctr l yX3_productOrTooGreat cX3_productOrTooGreat 5 (some .long) 1 21 YC E base [.long a0, .int a1] σ (.ok (some (.long r))) σ := by
  unfold c_X3_productOrTooGreat at h
  refine ofV 2 (by decide +kernel) rfl hE hnt (Nat.le_of_ble_eq_true rfl) rfl (fun M hN K => ?_)
  refine v_iload2 (pc := 0) K dX3_productOrTooGreat_0 ?_
  refine v_if_ne (pc := 1) (tgt := 6) K dX3_productOrTooGreat_1 (by decide) (fun c1 => ?_) (fun c1 => ?_)
  · have h := ie c1 h
    refine v_ldc2 (pc := 6) K dX3_productOrTooGreat_6 cl_RX3_331 ?_
    refine v_iload2 (pc := 9) K dX3_productOrTooGreat_9 ?_
    obtain ⟨v2, h3, h⟩ := bd h
    refine v_cS1I (pc := 10)  K ca_yJ9_abs_0f7a4 ml_RX3_333 (t_J9_abs_0f7a4 _ K.nt K.ad σ a1 v2 h3) (Nat.le_of_ble_eq_true rfl) (by decide) (by decide) dX3_productOrTooGreat_10 ?_
    refine v_i2l (pc := 13) K dX3_productOrTooGreat_13 ?_
    by_cases c4 : (v2).toInt64 = 0
    · cases (it c4 h)
    have h := ie c4 h
    refine v_ldiv (pc := 14) K dX3_productOrTooGreat_14 c4 ?_
    refine v_lstore3 (pc := 15) K dX3_productOrTooGreat_15 rfl (Nat.le_of_ble_eq_true rfl) ?_
    refine v_lload0 (pc := 16) K dX3_productOrTooGreat_16 ?_
    obtain ⟨v5, h6, h⟩ := bd h
    refine v_cS1L (pc := 17)  K ca_yJ9_abs_067f4 ml_RX3_224 (t_J9_abs_067f4 _ K.nt K.ad σ a0 v5 h6) (Nat.le_of_ble_eq_true rfl) (by decide) (by decide) dX3_productOrTooGreat_17 ?_
    refine v_lload3 (pc := 20) K dX3_productOrTooGreat_20 ?_
    obtain ⟨t7, h9, h⟩ := bd h
    have hJ8 : V (mkX M YC E base 5 (.ok (some (.long r))) σ) σ 35 [none, none, none, none, none] [.long t7] := by
      cases h
      exact v_lret (pc := 35) K dX3_productOrTooGreat_35 rfl rfl
    clear h
    have h := h9
    refine v_lc_gt (pc := 21) (tgt := 32) K dX3_productOrTooGreat_21 dX3_productOrTooGreat_22 (by decide) (fun c10 => ?_) (fun c10 => ?_)
    · have h := it c10 h
      refine v_ldc2 (pc := 32) K dX3_productOrTooGreat_32 cl_RX3_329 ?_
      cases h
      exact (v_fg [false, true, false, false, true] hJ8)
    · have h := ie c10 h
      refine v_lload0 (pc := 25) K dX3_productOrTooGreat_25 ?_
      refine v_iload2 (pc := 26) K dX3_productOrTooGreat_26 ?_
      refine v_i2l (pc := 27) K dX3_productOrTooGreat_27 ?_
      refine v_lmul (pc := 28) K dX3_productOrTooGreat_28 ?_
      refine v_goto (pc := 29) (tgt := 35) K dX3_productOrTooGreat_29 (by decide) ?_
      cases h
      exact (v_fg [false, true, false, false, true] hJ8)
  · have h := it c1 h
    refine v_lc0 (pc := 4) K dX3_productOrTooGreat_4 ?_
    cases h
    exact v_lret (pc := 5) K dX3_productOrTooGreat_5 rfl rfl
set_option maxRecDepth 100000 in
def c_X3_scale (σ : St) (a0 : Int32) (a1 : Int32) (a2 : Int32) : Option (Except String Int32 × St) :=
  (xB (c_X3_needColumn σ a0) fun _ s2 => (xB (c_X3_needMask s2 a2) fun _ s6 => ((if a1 < ((-9) : Int32) then some (0 : Int32) else (if (9 : Int32) < a1 then some (0 : Int32) else some (1 : Int32))).bind fun (t9 : Int32) => (xB (c_X3_needArgument s6 t9) fun _ s15 => ((c_X3_expectAsItIs s15 a0).bind fun v18 => ((lp 5000 (fun (s20 : Int32 × Int32 × St) => (if s20.2.2.1 1 0 ≤ s20.2.1 then some (.inr (s20.1, s20.2.2)) else ((c_X1_isNumbered s20.2.2 a0 s20.2.1 a2).bind fun v28 => ((if v28 = 0 then some (s20.1, s20.2.2) else ((ix a0 6).bind fun j34 => ((ix s20.2.1 192).bind fun j36 => ((c_X3_productOrTooGreat s20.2.2 (s20.2.2.2 (4 + j34) j36) a1).bind fun v38 => ((ix s20.2.1 192).bind fun j40 => some ((s20.1 + 1), (sL s20.2.2 27 j40 v38))))))).bind fun (t30 : Int32 × St) => some (.inl (t30.1, (s20.2.1 + 1), t30.2)))))) ((0 : Int32), (0 : Int32), v18)).bind fun (r21 : Int32 × St) => (xB (c_X3_come r21.2 a0) fun v42 s43 => some (.ok r21.1, s43))))))))
set_option maxHeartbeats 4000000 in
set_option maxRecDepth 100000 in
theorem t_X3_scale (l : Launch) (hnt : l.stackTraces = false) {E : Ev} {base : Nat} (hE : Adr YC E base) (σ : St) (a0 : Int32) (a1 : Int32) (a2 : Int32) (r : Except String Int32) (σ' : St) (h : c_X3_scale σ a0 a1 a2 = some (r, σ')) : Ctr l yX3_scale cX3_scale 6 (some .int) 8 145 YC E base [.ref (E.2.2 0), .int a0, .int a1, .int a2] σ (rI r) σ' := by
  unfold c_X3_scale at h
  refine ofV 2 (by decide +kernel) rfl hE hnt (Nat.le_of_ble_eq_true rfl) rfl (fun M hN K => ?_)
  refine v_aload0 (pc := 0) K dX3_scale_0 ?_
  refine v_iload1 (pc := 1) K dX3_scale_1 ?_
  rcases xb h with ⟨v1, s2, h3, h⟩ | ⟨e4, s2, h3, hF⟩
  · refine v_cV1U (pc := 2) K ca_yX3_needColumn ml_RX3_66 (Nat.le_of_ble_eq_true rfl) rfl rfl (t_X3_needColumn _ K.nt K.ad σ a0 (.ok v1) s2 h3) (Nat.le_of_ble_eq_true rfl) (by decide) (by decide) dX3_scale_2 ?_
    refine v_iload3 (pc := 5) K dX3_scale_5 ?_
    rcases xb h with ⟨v5, s6, h7, h⟩ | ⟨e8, s6, h7, hF⟩
    · refine v_cS1U (pc := 6) K ca_yX3_needMask ml_RX3_125 (t_X3_needMask _ K.nt K.ad s2 a2 (.ok v5) s6 h7) (Nat.le_of_ble_eq_true rfl) (by decide) (by decide) dX3_scale_6 ?_
      refine v_iload2 (pc := 9) K dX3_scale_9 ?_
      refine v_bipush (pc := 10) (v := (-9)) K dX3_scale_10 (by decide) ?_
      obtain ⟨t9, h11, h⟩ := bd h
      have hJ10 : V (mkX M YC E base 6 (rI r) σ') s6 26 [some (.ref (E.2.2 0)), some (.int a0), some (.int a1), some (.int a2), none, none] [.int t9] := by
        rcases xb h with ⟨v14, s15, h16, h⟩ | ⟨e17, s15, h16, hF⟩
        · refine v_cS1U (pc := 26) K ca_yX3_needArgument ml_RX3_73 (t_X3_needArgument _ K.nt K.ad s6 t9 (.ok v14) s15 h16) (Nat.le_of_ble_eq_true rfl) (by decide) (by decide) dX3_scale_26 ?_
          refine v_aload0 (pc := 29) K dX3_scale_29 ?_
          refine v_iload1 (pc := 30) K dX3_scale_30 ?_
          obtain ⟨v18, h19, h⟩ := bd h
          refine v_cV1U (pc := 31)  K ca_yX3_expectAsItIs ml_RX3_252 (Nat.le_of_ble_eq_true rfl) rfl rfl (t_X3_expectAsItIs _ K.nt K.ad s15 a0 v18 h19) (Nat.le_of_ble_eq_true rfl) (by decide) (by decide) dX3_scale_31 ?_
          refine v_ic0 (pc := 34) K dX3_scale_34 ?_
          refine v_istore4 (pc := 35) K dX3_scale_35 rfl (Nat.le_of_ble_eq_true rfl) ?_
          refine v_ic0 (pc := 37) K dX3_scale_37 ?_
          refine v_istore5 (pc := 38) K dX3_scale_38 rfl (Nat.le_of_ble_eq_true rfl) ?_
          obtain ⟨r21, h23, h⟩ := bd h
          have hJ22 : V (mkX M YC E base 6 (rI r) σ') r21.2 98 [some (.ref (E.2.2 0)), some (.int a0), none, none, some (.int r21.1), none] [] := by
            refine v_aload0 (pc := 98) K dX3_scale_98 ?_
            refine v_iload1 (pc := 99) K dX3_scale_99 ?_
            rcases xb h with ⟨v42, s43, h44, h⟩ | ⟨e45, s43, h44, hF⟩
            · refine v_cV1I (pc := 100) K ca_yX3_come ml_RX3_258 (Nat.le_of_ble_eq_true rfl) rfl rfl (t_X3_come _ K.nt K.ad r21.2 a0 (.ok v42) s43 h44) (Nat.le_of_ble_eq_true rfl) (by decide) (by decide) dX3_scale_100 ?_
              refine v_popI (pc := 103) K dX3_scale_103 ?_
              refine v_iload4 (pc := 104) K dX3_scale_104 ?_
              cases h
              exact v_iret (pc := 106) K dX3_scale_106 rfl rfl
            · cases hF
              exact v_cV1X (pc := 100)  K ca_yX3_come ml_RX3_258 (Nat.le_of_ble_eq_true rfl) rfl rfl (t_X3_come _ K.nt K.ad r21.2 a0 (.error e45) _ h44) (Nat.le_of_ble_eq_true rfl) (by decide) (by decide) dX3_scale_100 hN rfl rfl
          clear h
          have hL46 := lpv h23 (fun s20 : Int32 × Int32 × St => V (mkX M YC E base 6 (rI r) σ') s20.2.2 40 [some (.ref (E.2.2 0)), some (.int a0), some (.int a1), some (.int a2), some (.int s20.1), some (.int s20.2.1)] [])
          refine hL46 (fun s20 o h hk => ?_)
          refine v_iload5 (pc := 40) K dX3_scale_40 ?_
          refine v_aload0 (pc := 42) K dX3_scale_42 ?_
          refine v_getR (pc := 43) K fl_RX3_14 dX3_scale_43 (Nat.le_of_ble_eq_true rfl) rfl rfl ?_
          refine v_getI (pc := 46) K fl_RX3_76 dX3_scale_46 (Nat.le_of_ble_eq_true rfl) rfl rfl ?_
          refine v_icmp_ge (pc := 49) (tgt := 98) K dX3_scale_49 (by decide) (fun c27 => ?_) (fun c27 => ?_)
          · have h := it c27 h
            have e := lx h hk
            cases e
            exact v_fg [true, true, false, false, true, false] hJ22
          · have h := ie c27 h
            refine v_aload0 (pc := 52) K dX3_scale_52 ?_
            refine v_getR (pc := 53) K fl_RX3_14 dX3_scale_53 (Nat.le_of_ble_eq_true rfl) rfl rfl ?_
            refine v_iload1 (pc := 56) K dX3_scale_56 ?_
            refine v_iload5 (pc := 57) K dX3_scale_57 ?_
            refine v_iload3 (pc := 59) K dX3_scale_59 ?_
            obtain ⟨v28, h29, h⟩ := bd h
            refine v_cV3I (pc := 60)  K ca_yX1_isNumbered ml_RX3_150 (Nat.le_of_ble_eq_true rfl) rfl rfl (t_X1_isNumbered _ K.nt K.ad s20.2.2 a0 s20.2.1 a2 v28 h29) (Nat.le_of_ble_eq_true rfl) (by decide) (by decide) dX3_scale_60 ?_
            obtain ⟨t30, h32, h⟩ := bd h
            have hJ31 : V (mkX M YC E base 6 (rI r) σ') t30.2 92 [some (.ref (E.2.2 0)), some (.int a0), some (.int a1), some (.int a2), some (.int t30.1), some (.int s20.2.1)] [] := by
              refine v_iinc5 (pc := 92) (w := 1) K dX3_scale_92 rfl (Nat.le_of_ble_eq_true rfl) (by decide) ?_
              refine v_goto (pc := 95) (tgt := 40) K dX3_scale_95 (by decide) ?_
              have e := lfc h hk
              exact e
            clear h
            have h := h32
            refine v_if_eq (pc := 63) (tgt := 92) K dX3_scale_63 (by decide) (fun c33 => ?_) (fun c33 => ?_)
            · have h := it c33 h
              cases h
              exact hJ31
            · have h := ie c33 h
              refine v_aload0 (pc := 66) K dX3_scale_66 ?_
              refine v_getR (pc := 67) K fl_RX3_40 dX3_scale_67 (Nat.le_of_ble_eq_true rfl) rfl rfl ?_
              refine v_iload5 (pc := 70) K dX3_scale_70 ?_
              refine v_aload0 (pc := 72) K dX3_scale_72 ?_
              refine v_getR (pc := 73) K fl_RX3_14 dX3_scale_73 (Nat.le_of_ble_eq_true rfl) rfl rfl ?_
              refine v_getR (pc := 76) K fl_RX3_86 dX3_scale_76 (Nat.le_of_ble_eq_true rfl) rfl rfl ?_
              refine v_iload1 (pc := 79) K dX3_scale_79 ?_
              obtain ⟨j34, h35, h⟩ := bd h
              refine v_aal (pc := 80) (b := 4) K dX3_scale_80 (Nat.le_of_ble_eq_true rfl) rfl rfl h35 ?_
              refine v_iload5 (pc := 81) K dX3_scale_81 ?_
              obtain ⟨j36, h37, h⟩ := bd h
              refine v_laload (pc := 83) K dX3_scale_83 (rowC' (ix_lt h35)) (rowC (ix_lt h35)) h37 ?_
              refine v_iload2 (pc := 84) K dX3_scale_84 ?_
              obtain ⟨v38, h39, h⟩ := bd h
              refine v_cS2L (pc := 85)  K ca_yX3_productOrTooGreat ml_RX3_261 (t_X3_productOrTooGreat _ K.nt K.ad s20.2.2 (s20.2.2.2 (4 + j34) j36) a1 v38 h39) (Nat.le_of_ble_eq_true rfl) (by decide) (by decide) dX3_scale_85 ?_
              obtain ⟨j40, h41, h⟩ := bd h
              refine v_lastore (pc := 88) K dX3_scale_88 (Nat.le_of_ble_eq_true rfl) rfl h41 ?_
              refine v_iinc4 (pc := 89) (w := 1) K dX3_scale_89 rfl (Nat.le_of_ble_eq_true rfl) (by decide) ?_
              cases h
              exact hJ31
        · cases hF
          exact v_cS1X (pc := 26)  K ca_yX3_needArgument ml_RX3_73 (t_X3_needArgument _ K.nt K.ad s6 t9 (.error e17) _ h16) (Nat.le_of_ble_eq_true rfl) (by decide) (by decide) dX3_scale_26 hN rfl rfl
      clear h
      have h := h11
      refine v_icmp_lt (pc := 12) (tgt := 25) K dX3_scale_12 (by decide) (fun c12 => ?_) (fun c12 => ?_)
      · have h := it c12 h
        refine v_ic0 (pc := 25) K dX3_scale_25 ?_
        cases h
        exact hJ10
      · have h := ie c12 h
        refine v_iload2 (pc := 15) K dX3_scale_15 ?_
        refine v_bipush (pc := 16) (v := 9) K dX3_scale_16 (by decide) ?_
        refine v_icmp_gt (pc := 18) (tgt := 25) K dX3_scale_18 (by decide) (fun c13 => ?_) (fun c13 => ?_)
        · have h := it c13 h
          refine v_ic0 (pc := 25) K dX3_scale_25 ?_
          cases h
          exact hJ10
        · have h := ie c13 h
          refine v_ic1 (pc := 21) K dX3_scale_21 ?_
          refine v_goto (pc := 22) (tgt := 26) K dX3_scale_22 (by decide) ?_
          cases h
          exact hJ10
    · cases hF
      exact v_cS1X (pc := 6)  K ca_yX3_needMask ml_RX3_125 (t_X3_needMask _ K.nt K.ad s2 a2 (.error e8) _ h7) (Nat.le_of_ble_eq_true rfl) (by decide) (by decide) dX3_scale_6 hN rfl rfl
  · cases hF
    exact v_cV1X (pc := 2)  K ca_yX3_needColumn ml_RX3_66 (Nat.le_of_ble_eq_true rfl) rfl rfl (t_X3_needColumn _ K.nt K.ad σ a0 (.error e4) _ h3) (Nat.le_of_ble_eq_true rfl) (by decide) (by decide) dX3_scale_2 hN rfl rfl
set_option maxRecDepth 100000 in
def c_X3_shiftedOrTooGreat (σ : St) (a0 : Int64) (a1 : Int32) : Option (Int64) :=
  (if 0 ≤ a1 then ((if a0 < (((-4611686018427387904) : Int64) >>> ((a1).toInt64 &&& 63)) then some (0 : Int32) else (if ((4611686018427387903 : Int64) >>> ((a1).toInt64 &&& 63)) < a0 then some (0 : Int32) else some (1 : Int32))).bind fun (t2 : Int32) => ((if t2 = 0 then some (9223372036854775807 : Int64) else some (a0 <<< ((a1).toInt64 &&& 63))).bind fun (t7 : Int64) => some t7)) else some (a0 >>> (((-a1)).toInt64 &&& 63)))
set_option maxHeartbeats 4000000 in
set_option maxRecDepth 100000 in
theorem t_X3_shiftedOrTooGreat (l : Launch) (hnt : l.stackTraces = false) {E : Ev} {base : Nat} (hE : Adr YC E base) (σ : St) (a0 : Int64) (a1 : Int32) (r : Int64) (h : c_X3_shiftedOrTooGreat σ a0 a1 = some r) : Ctr l yX3_shiftedOrTooGreat cX3_shiftedOrTooGreat 4 (some .long) 0 0 YC E base [.long a0, .int a1] σ (.ok (some (.long r))) σ := by
  unfold c_X3_shiftedOrTooGreat at h
  refine ofV 1 (by decide +kernel) rfl hE hnt (Nat.le_of_ble_eq_true rfl) rfl (fun M hN K => ?_)
  refine v_iload2 (pc := 0) K dX3_shiftedOrTooGreat_0 ?_
  refine v_if_ge (pc := 1) (tgt := 9) K dX3_shiftedOrTooGreat_1 (by decide) (fun c1 => ?_) (fun c1 => ?_)
  · have h := it c1 h
    refine v_lload0 (pc := 9) K dX3_shiftedOrTooGreat_9 ?_
    refine v_ldc2 (pc := 10) K dX3_shiftedOrTooGreat_10 cl_RX3_236 ?_
    refine v_iload2 (pc := 13) K dX3_shiftedOrTooGreat_13 ?_
    refine v_lshr (pc := 14) K dX3_shiftedOrTooGreat_14 ?_
    obtain ⟨t2, h4, h⟩ := bd h
    have hJ3 : V (mkX M YC E base 4 (.ok (some (.long r))) σ) σ 34 [some (.long a0), none, some (.int a1), none] [.int t2] := by
      refine v_istore3 (pc := 34) K dX3_shiftedOrTooGreat_34 rfl (Nat.le_of_ble_eq_true rfl) ?_
      refine v_iload3 (pc := 35) K dX3_shiftedOrTooGreat_35 ?_
      obtain ⟨t7, h9, h⟩ := bd h
      have hJ8 : V (mkX M YC E base 4 (.ok (some (.long r))) σ) σ 48 [none, none, none, none] [.long t7] := by
        cases h
        exact v_lret (pc := 48) K dX3_shiftedOrTooGreat_48 rfl rfl
      clear h
      have h := h9
      refine v_if_eq (pc := 36) (tgt := 45) K dX3_shiftedOrTooGreat_36 (by decide) (fun c10 => ?_) (fun c10 => ?_)
      · have h := it c10 h
        refine v_ldc2 (pc := 45) K dX3_shiftedOrTooGreat_45 cl_RX3_329 ?_
        cases h
        exact (v_fg [false, true, false, false] hJ8)
      · have h := ie c10 h
        refine v_lload0 (pc := 39) K dX3_shiftedOrTooGreat_39 ?_
        refine v_iload2 (pc := 40) K dX3_shiftedOrTooGreat_40 ?_
        refine v_lshl (pc := 41) K dX3_shiftedOrTooGreat_41 ?_
        refine v_goto (pc := 42) (tgt := 48) K dX3_shiftedOrTooGreat_42 (by decide) ?_
        cases h
        exact (v_fg [false, true, false, false] hJ8)
    clear h
    have h := h4
    refine v_lc_lt (pc := 15) (tgt := 33) K dX3_shiftedOrTooGreat_15 dX3_shiftedOrTooGreat_16 (by decide) (fun c5 => ?_) (fun c5 => ?_)
    · have h := it c5 h
      refine v_ic0 (pc := 33) K dX3_shiftedOrTooGreat_33 ?_
      cases h
      exact hJ3
    · have h := ie c5 h
      refine v_lload0 (pc := 19) K dX3_shiftedOrTooGreat_19 ?_
      refine v_ldc2 (pc := 20) K dX3_shiftedOrTooGreat_20 cl_RX3_238 ?_
      refine v_iload2 (pc := 23) K dX3_shiftedOrTooGreat_23 ?_
      refine v_lshr (pc := 24) K dX3_shiftedOrTooGreat_24 ?_
      refine v_lc_gt (pc := 25) (tgt := 33) K dX3_shiftedOrTooGreat_25 dX3_shiftedOrTooGreat_26 (by decide) (fun c6 => ?_) (fun c6 => ?_)
      · have h := it c6 h
        refine v_ic0 (pc := 33) K dX3_shiftedOrTooGreat_33 ?_
        cases h
        exact hJ3
      · have h := ie c6 h
        refine v_ic1 (pc := 29) K dX3_shiftedOrTooGreat_29 ?_
        refine v_goto (pc := 30) (tgt := 34) K dX3_shiftedOrTooGreat_30 (by decide) ?_
        cases h
        exact hJ3
  · have h := ie c1 h
    refine v_lload0 (pc := 4) K dX3_shiftedOrTooGreat_4 ?_
    refine v_iload2 (pc := 5) K dX3_shiftedOrTooGreat_5 ?_
    refine v_ineg (pc := 6) K dX3_shiftedOrTooGreat_6 ?_
    refine v_lshr (pc := 7) K dX3_shiftedOrTooGreat_7 ?_
    cases h
    exact v_lret (pc := 8) K dX3_shiftedOrTooGreat_8 rfl rfl
set_option maxRecDepth 100000 in
def c_X3_shift (σ : St) (a0 : Int32) (a1 : Int32) (a2 : Int32) : Option (Except String Int32 × St) :=
  (xB (c_X3_needColumn σ a0) fun _ s2 => (xB (c_X3_needMask s2 a2) fun _ s6 => ((if a1 = 0 then some (0 : Int32) else (if a1 < ((-62) : Int32) then some (0 : Int32) else (if (62 : Int32) < a1 then some (0 : Int32) else some (1 : Int32)))).bind fun (t9 : Int32) => (xB (c_X3_needArgument s6 t9) fun _ s16 => ((c_X3_expectAsItIs s16 a0).bind fun v19 => ((lp 5000 (fun (s21 : Int32 × Int32 × St) => (if s21.2.2.1 1 0 ≤ s21.2.1 then some (.inr (s21.1, s21.2.2)) else ((c_X1_isNumbered s21.2.2 a0 s21.2.1 a2).bind fun v29 => ((if v29 = 0 then some (s21.1, s21.2.2) else ((ix a0 6).bind fun j35 => ((ix s21.2.1 192).bind fun j37 => ((c_X3_shiftedOrTooGreat s21.2.2 (s21.2.2.2 (4 + j35) j37) a1).bind fun v39 => ((ix s21.2.1 192).bind fun j41 => some ((s21.1 + 1), (sL s21.2.2 27 j41 v39))))))).bind fun (t31 : Int32 × St) => some (.inl (t31.1, (s21.2.1 + 1), t31.2)))))) ((0 : Int32), (0 : Int32), v19)).bind fun (r22 : Int32 × St) => (xB (c_X3_come r22.2 a0) fun v43 s44 => some (.ok r22.1, s44))))))))
set_option maxHeartbeats 4000000 in
set_option maxRecDepth 100000 in
theorem t_X3_shift (l : Launch) (hnt : l.stackTraces = false) {E : Ev} {base : Nat} (hE : Adr YC E base) (σ : St) (a0 : Int32) (a1 : Int32) (a2 : Int32) (r : Except String Int32) (σ' : St) (h : c_X3_shift σ a0 a1 a2 = some (r, σ')) : Ctr l yX3_shift cX3_shift 6 (some .int) 8 145 YC E base [.ref (E.2.2 0), .int a0, .int a1, .int a2] σ (rI r) σ' := by
  unfold c_X3_shift at h
  refine ofV 2 (by decide +kernel) rfl hE hnt (Nat.le_of_ble_eq_true rfl) rfl (fun M hN K => ?_)
  refine v_aload0 (pc := 0) K dX3_shift_0 ?_
  refine v_iload1 (pc := 1) K dX3_shift_1 ?_
  rcases xb h with ⟨v1, s2, h3, h⟩ | ⟨e4, s2, h3, hF⟩
  · refine v_cV1U (pc := 2) K ca_yX3_needColumn ml_RX3_66 (Nat.le_of_ble_eq_true rfl) rfl rfl (t_X3_needColumn _ K.nt K.ad σ a0 (.ok v1) s2 h3) (Nat.le_of_ble_eq_true rfl) (by decide) (by decide) dX3_shift_2 ?_
    refine v_iload3 (pc := 5) K dX3_shift_5 ?_
    rcases xb h with ⟨v5, s6, h7, h⟩ | ⟨e8, s6, h7, hF⟩
    · refine v_cS1U (pc := 6) K ca_yX3_needMask ml_RX3_125 (t_X3_needMask _ K.nt K.ad s2 a2 (.ok v5) s6 h7) (Nat.le_of_ble_eq_true rfl) (by decide) (by decide) dX3_shift_6 ?_
      refine v_iload2 (pc := 9) K dX3_shift_9 ?_
      obtain ⟨t9, h11, h⟩ := bd h
      have hJ10 : V (mkX M YC E base 6 (rI r) σ') s6 30 [some (.ref (E.2.2 0)), some (.int a0), some (.int a1), some (.int a2), none, none] [.int t9] := by
        rcases xb h with ⟨v15, s16, h17, h⟩ | ⟨e18, s16, h17, hF⟩
        · refine v_cS1U (pc := 30) K ca_yX3_needArgument ml_RX3_73 (t_X3_needArgument _ K.nt K.ad s6 t9 (.ok v15) s16 h17) (Nat.le_of_ble_eq_true rfl) (by decide) (by decide) dX3_shift_30 ?_
          refine v_aload0 (pc := 33) K dX3_shift_33 ?_
          refine v_iload1 (pc := 34) K dX3_shift_34 ?_
          obtain ⟨v19, h20, h⟩ := bd h
          refine v_cV1U (pc := 35)  K ca_yX3_expectAsItIs ml_RX3_252 (Nat.le_of_ble_eq_true rfl) rfl rfl (t_X3_expectAsItIs _ K.nt K.ad s16 a0 v19 h20) (Nat.le_of_ble_eq_true rfl) (by decide) (by decide) dX3_shift_35 ?_
          refine v_ic0 (pc := 38) K dX3_shift_38 ?_
          refine v_istore4 (pc := 39) K dX3_shift_39 rfl (Nat.le_of_ble_eq_true rfl) ?_
          refine v_ic0 (pc := 41) K dX3_shift_41 ?_
          refine v_istore5 (pc := 42) K dX3_shift_42 rfl (Nat.le_of_ble_eq_true rfl) ?_
          obtain ⟨r22, h24, h⟩ := bd h
          have hJ23 : V (mkX M YC E base 6 (rI r) σ') r22.2 102 [some (.ref (E.2.2 0)), some (.int a0), none, none, some (.int r22.1), none] [] := by
            refine v_aload0 (pc := 102) K dX3_shift_102 ?_
            refine v_iload1 (pc := 103) K dX3_shift_103 ?_
            rcases xb h with ⟨v43, s44, h45, h⟩ | ⟨e46, s44, h45, hF⟩
            · refine v_cV1I (pc := 104) K ca_yX3_come ml_RX3_258 (Nat.le_of_ble_eq_true rfl) rfl rfl (t_X3_come _ K.nt K.ad r22.2 a0 (.ok v43) s44 h45) (Nat.le_of_ble_eq_true rfl) (by decide) (by decide) dX3_shift_104 ?_
              refine v_popI (pc := 107) K dX3_shift_107 ?_
              refine v_iload4 (pc := 108) K dX3_shift_108 ?_
              cases h
              exact v_iret (pc := 110) K dX3_shift_110 rfl rfl
            · cases hF
              exact v_cV1X (pc := 104)  K ca_yX3_come ml_RX3_258 (Nat.le_of_ble_eq_true rfl) rfl rfl (t_X3_come _ K.nt K.ad r22.2 a0 (.error e46) _ h45) (Nat.le_of_ble_eq_true rfl) (by decide) (by decide) dX3_shift_104 hN rfl rfl
          clear h
          have hL47 := lpv h24 (fun s21 : Int32 × Int32 × St => V (mkX M YC E base 6 (rI r) σ') s21.2.2 44 [some (.ref (E.2.2 0)), some (.int a0), some (.int a1), some (.int a2), some (.int s21.1), some (.int s21.2.1)] [])
          refine hL47 (fun s21 o h hk => ?_)
          refine v_iload5 (pc := 44) K dX3_shift_44 ?_
          refine v_aload0 (pc := 46) K dX3_shift_46 ?_
          refine v_getR (pc := 47) K fl_RX3_14 dX3_shift_47 (Nat.le_of_ble_eq_true rfl) rfl rfl ?_
          refine v_getI (pc := 50) K fl_RX3_76 dX3_shift_50 (Nat.le_of_ble_eq_true rfl) rfl rfl ?_
          refine v_icmp_ge (pc := 53) (tgt := 102) K dX3_shift_53 (by decide) (fun c28 => ?_) (fun c28 => ?_)
          · have h := it c28 h
            have e := lx h hk
            cases e
            exact v_fg [true, true, false, false, true, false] hJ23
          · have h := ie c28 h
            refine v_aload0 (pc := 56) K dX3_shift_56 ?_
            refine v_getR (pc := 57) K fl_RX3_14 dX3_shift_57 (Nat.le_of_ble_eq_true rfl) rfl rfl ?_
            refine v_iload1 (pc := 60) K dX3_shift_60 ?_
            refine v_iload5 (pc := 61) K dX3_shift_61 ?_
            refine v_iload3 (pc := 63) K dX3_shift_63 ?_
            obtain ⟨v29, h30, h⟩ := bd h
            refine v_cV3I (pc := 64)  K ca_yX1_isNumbered ml_RX3_150 (Nat.le_of_ble_eq_true rfl) rfl rfl (t_X1_isNumbered _ K.nt K.ad s21.2.2 a0 s21.2.1 a2 v29 h30) (Nat.le_of_ble_eq_true rfl) (by decide) (by decide) dX3_shift_64 ?_
            obtain ⟨t31, h33, h⟩ := bd h
            have hJ32 : V (mkX M YC E base 6 (rI r) σ') t31.2 96 [some (.ref (E.2.2 0)), some (.int a0), some (.int a1), some (.int a2), some (.int t31.1), some (.int s21.2.1)] [] := by
              refine v_iinc5 (pc := 96) (w := 1) K dX3_shift_96 rfl (Nat.le_of_ble_eq_true rfl) (by decide) ?_
              refine v_goto (pc := 99) (tgt := 44) K dX3_shift_99 (by decide) ?_
              have e := lfc h hk
              exact e
            clear h
            have h := h33
            refine v_if_eq (pc := 67) (tgt := 96) K dX3_shift_67 (by decide) (fun c34 => ?_) (fun c34 => ?_)
            · have h := it c34 h
              cases h
              exact hJ32
            · have h := ie c34 h
              refine v_aload0 (pc := 70) K dX3_shift_70 ?_
              refine v_getR (pc := 71) K fl_RX3_40 dX3_shift_71 (Nat.le_of_ble_eq_true rfl) rfl rfl ?_
              refine v_iload5 (pc := 74) K dX3_shift_74 ?_
              refine v_aload0 (pc := 76) K dX3_shift_76 ?_
              refine v_getR (pc := 77) K fl_RX3_14 dX3_shift_77 (Nat.le_of_ble_eq_true rfl) rfl rfl ?_
              refine v_getR (pc := 80) K fl_RX3_86 dX3_shift_80 (Nat.le_of_ble_eq_true rfl) rfl rfl ?_
              refine v_iload1 (pc := 83) K dX3_shift_83 ?_
              obtain ⟨j35, h36, h⟩ := bd h
              refine v_aal (pc := 84) (b := 4) K dX3_shift_84 (Nat.le_of_ble_eq_true rfl) rfl rfl h36 ?_
              refine v_iload5 (pc := 85) K dX3_shift_85 ?_
              obtain ⟨j37, h38, h⟩ := bd h
              refine v_laload (pc := 87) K dX3_shift_87 (rowC' (ix_lt h36)) (rowC (ix_lt h36)) h38 ?_
              refine v_iload2 (pc := 88) K dX3_shift_88 ?_
              obtain ⟨v39, h40, h⟩ := bd h
              refine v_cS2L (pc := 89)  K ca_yX3_shiftedOrTooGreat ml_RX3_265 (t_X3_shiftedOrTooGreat _ K.nt K.ad s21.2.2 (s21.2.2.2 (4 + j35) j37) a1 v39 h40) (Nat.le_of_ble_eq_true rfl) (by decide) (by decide) dX3_shift_89 ?_
              obtain ⟨j41, h42, h⟩ := bd h
              refine v_lastore (pc := 92) K dX3_shift_92 (Nat.le_of_ble_eq_true rfl) rfl h42 ?_
              refine v_iinc4 (pc := 93) (w := 1) K dX3_shift_93 rfl (Nat.le_of_ble_eq_true rfl) (by decide) ?_
              cases h
              exact hJ32
        · cases hF
          exact v_cS1X (pc := 30)  K ca_yX3_needArgument ml_RX3_73 (t_X3_needArgument _ K.nt K.ad s6 t9 (.error e18) _ h17) (Nat.le_of_ble_eq_true rfl) (by decide) (by decide) dX3_shift_30 hN rfl rfl
      clear h
      have h := h11
      refine v_if_eq (pc := 10) (tgt := 29) K dX3_shift_10 (by decide) (fun c12 => ?_) (fun c12 => ?_)
      · have h := it c12 h
        refine v_ic0 (pc := 29) K dX3_shift_29 ?_
        cases h
        exact hJ10
      · have h := ie c12 h
        refine v_iload2 (pc := 13) K dX3_shift_13 ?_
        refine v_bipush (pc := 14) (v := (-62)) K dX3_shift_14 (by decide) ?_
        refine v_icmp_lt (pc := 16) (tgt := 29) K dX3_shift_16 (by decide) (fun c13 => ?_) (fun c13 => ?_)
        · have h := it c13 h
          refine v_ic0 (pc := 29) K dX3_shift_29 ?_
          cases h
          exact hJ10
        · have h := ie c13 h
          refine v_iload2 (pc := 19) K dX3_shift_19 ?_
          refine v_bipush (pc := 20) (v := 62) K dX3_shift_20 (by decide) ?_
          refine v_icmp_gt (pc := 22) (tgt := 29) K dX3_shift_22 (by decide) (fun c14 => ?_) (fun c14 => ?_)
          · have h := it c14 h
            refine v_ic0 (pc := 29) K dX3_shift_29 ?_
            cases h
            exact hJ10
          · have h := ie c14 h
            refine v_ic1 (pc := 25) K dX3_shift_25 ?_
            refine v_goto (pc := 26) (tgt := 30) K dX3_shift_26 (by decide) ?_
            cases h
            exact hJ10
    · cases hF
      exact v_cS1X (pc := 6)  K ca_yX3_needMask ml_RX3_125 (t_X3_needMask _ K.nt K.ad s2 a2 (.error e8) _ h7) (Nat.le_of_ble_eq_true rfl) (by decide) (by decide) dX3_shift_6 hN rfl rfl
  · cases hF
    exact v_cV1X (pc := 2)  K ca_yX3_needColumn ml_RX3_66 (Nat.le_of_ble_eq_true rfl) rfl rfl (t_X3_needColumn _ K.nt K.ad σ a0 (.error e4) _ h3) (Nat.le_of_ble_eq_true rfl) (by decide) (by decide) dX3_shift_2 hN rfl rfl
set_option maxRecDepth 100000 in
def c_X3_hold (σ : St) (a0 : Int32) (a1 : Int64) (a2 : Int64) (a3 : Int32) : Option (Except String Int32 × St) :=
  (xB (c_X3_needColumn σ a0) fun _ s2 => (xB (c_X3_needMask s2 a3) fun _ s6 => ((if a2 < a1 then some (0 : Int32) else some (1 : Int32)).bind fun (t9 : Int32) => (xB (c_X3_needArgument s6 t9) fun _ s14 => (xB (c_X3_needFit s14 a0 a1) fun _ s18 => (xB (c_X3_needFit s18 a0 a2) fun _ s22 => ((c_X3_expectAsItIs s22 a0).bind fun v25 => ((lp 5000 (fun (s27 : Int32 × St) => (if s27.2.1 1 0 ≤ s27.1 then some (.inr s27.2) else ((c_X1_isNumbered s27.2 a0 s27.1 a3).bind fun v35 => ((if v35 = 0 then some s27.2 else ((ix a0 6).bind fun j41 => ((ix s27.1 192).bind fun j43 => ((c_J9_min_f86c9 s27.2 a2 (s27.2.2 (4 + j41) j43)).bind fun v45 => ((c_J9_max_f86c9 s27.2 a1 v45).bind fun v47 => ((ix s27.1 192).bind fun j49 => some (sL s27.2 27 j49 v47))))))).bind fun (t37 : St) => some (.inl ((s27.1 + 1), t37)))))) ((0 : Int32), v25)).bind fun (r28 : St) => (xB (c_X3_come r28 a0) fun v51 s52 => some (.ok v51, s52))))))))))
set_option maxHeartbeats 4000000 in
set_option maxRecDepth 100000 in
theorem t_X3_hold (l : Launch) (hnt : l.stackTraces = false) {E : Ev} {base : Nat} (hE : Adr YC E base) (σ : St) (a0 : Int32) (a1 : Int64) (a2 : Int64) (a3 : Int32) (r : Except String Int32) (σ' : St) (h : c_X3_hold σ a0 a1 a2 a3 = some (r, σ')) : Ctr l yX3_hold cX3_hold 8 (some .int) 8 145 YC E base [.ref (E.2.2 0), .int a0, .long a1, .long a2, .int a3] σ (rI r) σ' := by
  unfold c_X3_hold at h
  refine ofV 1 (by decide +kernel) rfl hE hnt (Nat.le_of_ble_eq_true rfl) rfl (fun M hN K => ?_)
  refine v_aload0 (pc := 0) K dX3_hold_0 ?_
  refine v_iload1 (pc := 1) K dX3_hold_1 ?_
  rcases xb h with ⟨v1, s2, h3, h⟩ | ⟨e4, s2, h3, hF⟩
  · refine v_cV1U (pc := 2) K ca_yX3_needColumn ml_RX3_66 (Nat.le_of_ble_eq_true rfl) rfl rfl (t_X3_needColumn _ K.nt K.ad σ a0 (.ok v1) s2 h3) (Nat.le_of_ble_eq_true rfl) (by decide) (by decide) dX3_hold_2 ?_
    refine v_iload6 (pc := 5) K dX3_hold_5 ?_
    rcases xb h with ⟨v5, s6, h7, h⟩ | ⟨e8, s6, h7, hF⟩
    · refine v_cS1U (pc := 7) K ca_yX3_needMask ml_RX3_125 (t_X3_needMask _ K.nt K.ad s2 a3 (.ok v5) s6 h7) (Nat.le_of_ble_eq_true rfl) (by decide) (by decide) dX3_hold_7 ?_
      refine v_lload2 (pc := 10) K dX3_hold_10 ?_
      refine v_lload4 (pc := 11) K dX3_hold_11 ?_
      obtain ⟨t9, h11, h⟩ := bd h
      have hJ10 : V (mkX M YC E base 8 (rI r) σ') s6 22 [some (.ref (E.2.2 0)), some (.int a0), some (.long a1), none, some (.long a2), none, some (.int a3), none] [.int t9] := by
        rcases xb h with ⟨v13, s14, h15, h⟩ | ⟨e16, s14, h15, hF⟩
        · refine v_cS1U (pc := 22) K ca_yX3_needArgument ml_RX3_73 (t_X3_needArgument _ K.nt K.ad s6 t9 (.ok v13) s14 h15) (Nat.le_of_ble_eq_true rfl) (by decide) (by decide) dX3_hold_22 ?_
          refine v_aload0 (pc := 25) K dX3_hold_25 ?_
          refine v_iload1 (pc := 26) K dX3_hold_26 ?_
          refine v_lload2 (pc := 27) K dX3_hold_27 ?_
          rcases xb h with ⟨v17, s18, h19, h⟩ | ⟨e20, s18, h19, hF⟩
          · refine v_cV2U (pc := 28) K ca_yX3_needFit ml_RX3_82 (Nat.le_of_ble_eq_true rfl) rfl rfl (t_X3_needFit _ K.nt K.ad s14 a0 a1 (.ok v17) s18 h19) (Nat.le_of_ble_eq_true rfl) (by decide) (by decide) dX3_hold_28 ?_
            refine v_aload0 (pc := 31) K dX3_hold_31 ?_
            refine v_iload1 (pc := 32) K dX3_hold_32 ?_
            refine v_lload4 (pc := 33) K dX3_hold_33 ?_
            rcases xb h with ⟨v21, s22, h23, h⟩ | ⟨e24, s22, h23, hF⟩
            · refine v_cV2U (pc := 35) K ca_yX3_needFit ml_RX3_82 (Nat.le_of_ble_eq_true rfl) rfl rfl (t_X3_needFit _ K.nt K.ad s18 a0 a2 (.ok v21) s22 h23) (Nat.le_of_ble_eq_true rfl) (by decide) (by decide) dX3_hold_35 ?_
              refine v_aload0 (pc := 38) K dX3_hold_38 ?_
              refine v_iload1 (pc := 39) K dX3_hold_39 ?_
              obtain ⟨v25, h26, h⟩ := bd h
              refine v_cV1U (pc := 40)  K ca_yX3_expectAsItIs ml_RX3_252 (Nat.le_of_ble_eq_true rfl) rfl rfl (t_X3_expectAsItIs _ K.nt K.ad s22 a0 v25 h26) (Nat.le_of_ble_eq_true rfl) (by decide) (by decide) dX3_hold_40 ?_
              refine v_ic0 (pc := 43) K dX3_hold_43 ?_
              refine v_istore7 (pc := 44) K dX3_hold_44 rfl (Nat.le_of_ble_eq_true rfl) ?_
              obtain ⟨r28, h30, h⟩ := bd h
              have hJ29 : V (mkX M YC E base 8 (rI r) σ') r28 107 [some (.ref (E.2.2 0)), some (.int a0), none, none, none, none, none, none] [] := by
                refine v_aload0 (pc := 107) K dX3_hold_107 ?_
                refine v_iload1 (pc := 108) K dX3_hold_108 ?_
                rcases xb h with ⟨v51, s52, h53, h⟩ | ⟨e54, s52, h53, hF⟩
                · refine v_cV1I (pc := 109) K ca_yX3_come ml_RX3_258 (Nat.le_of_ble_eq_true rfl) rfl rfl (t_X3_come _ K.nt K.ad r28 a0 (.ok v51) s52 h53) (Nat.le_of_ble_eq_true rfl) (by decide) (by decide) dX3_hold_109 ?_
                  cases h
                  exact v_iret (pc := 112) K dX3_hold_112 rfl rfl
                · cases hF
                  exact v_cV1X (pc := 109)  K ca_yX3_come ml_RX3_258 (Nat.le_of_ble_eq_true rfl) rfl rfl (t_X3_come _ K.nt K.ad r28 a0 (.error e54) _ h53) (Nat.le_of_ble_eq_true rfl) (by decide) (by decide) dX3_hold_109 hN rfl rfl
              clear h
              have hL55 := lpv h30 (fun s27 : Int32 × St => V (mkX M YC E base 8 (rI r) σ') s27.2 46 [some (.ref (E.2.2 0)), some (.int a0), some (.long a1), none, some (.long a2), none, some (.int a3), some (.int s27.1)] [])
              refine hL55 (fun s27 o h hk => ?_)
              refine v_iload7 (pc := 46) K dX3_hold_46 ?_
              refine v_aload0 (pc := 48) K dX3_hold_48 ?_
              refine v_getR (pc := 49) K fl_RX3_14 dX3_hold_49 (Nat.le_of_ble_eq_true rfl) rfl rfl ?_
              refine v_getI (pc := 52) K fl_RX3_76 dX3_hold_52 (Nat.le_of_ble_eq_true rfl) rfl rfl ?_
              refine v_icmp_ge (pc := 55) (tgt := 107) K dX3_hold_55 (by decide) (fun c34 => ?_) (fun c34 => ?_)
              · have h := it c34 h
                have e := lx h hk
                cases e
                exact v_fg [true, true, false, true, false, true, false, false] hJ29
              · have h := ie c34 h
                refine v_aload0 (pc := 58) K dX3_hold_58 ?_
                refine v_getR (pc := 59) K fl_RX3_14 dX3_hold_59 (Nat.le_of_ble_eq_true rfl) rfl rfl ?_
                refine v_iload1 (pc := 62) K dX3_hold_62 ?_
                refine v_iload7 (pc := 63) K dX3_hold_63 ?_
                refine v_iload6 (pc := 65) K dX3_hold_65 ?_
                obtain ⟨v35, h36, h⟩ := bd h
                refine v_cV3I (pc := 67)  K ca_yX1_isNumbered ml_RX3_150 (Nat.le_of_ble_eq_true rfl) rfl rfl (t_X1_isNumbered _ K.nt K.ad s27.2 a0 s27.1 a3 v35 h36) (Nat.le_of_ble_eq_true rfl) (by decide) (by decide) dX3_hold_67 ?_
                obtain ⟨t37, h39, h⟩ := bd h
                have hJ38 : V (mkX M YC E base 8 (rI r) σ') t37 101 [some (.ref (E.2.2 0)), some (.int a0), some (.long a1), none, some (.long a2), none, some (.int a3), some (.int s27.1)] [] := by
                  refine v_iinc7 (pc := 101) (w := 1) K dX3_hold_101 rfl (Nat.le_of_ble_eq_true rfl) (by decide) ?_
                  refine v_goto (pc := 104) (tgt := 46) K dX3_hold_104 (by decide) ?_
                  have e := lfc h hk
                  exact e
                clear h
                have h := h39
                refine v_if_eq (pc := 70) (tgt := 101) K dX3_hold_70 (by decide) (fun c40 => ?_) (fun c40 => ?_)
                · have h := it c40 h
                  cases h
                  exact hJ38
                · have h := ie c40 h
                  refine v_aload0 (pc := 73) K dX3_hold_73 ?_
                  refine v_getR (pc := 74) K fl_RX3_40 dX3_hold_74 (Nat.le_of_ble_eq_true rfl) rfl rfl ?_
                  refine v_iload7 (pc := 77) K dX3_hold_77 ?_
                  refine v_lload2 (pc := 79) K dX3_hold_79 ?_
                  refine v_lload4 (pc := 80) K dX3_hold_80 ?_
                  refine v_aload0 (pc := 82) K dX3_hold_82 ?_
                  refine v_getR (pc := 83) K fl_RX3_14 dX3_hold_83 (Nat.le_of_ble_eq_true rfl) rfl rfl ?_
                  refine v_getR (pc := 86) K fl_RX3_86 dX3_hold_86 (Nat.le_of_ble_eq_true rfl) rfl rfl ?_
                  refine v_iload1 (pc := 89) K dX3_hold_89 ?_
                  obtain ⟨j41, h42, h⟩ := bd h
                  refine v_aal (pc := 90) (b := 4) K dX3_hold_90 (Nat.le_of_ble_eq_true rfl) rfl rfl h42 ?_
                  refine v_iload7 (pc := 91) K dX3_hold_91 ?_
                  obtain ⟨j43, h44, h⟩ := bd h
                  refine v_laload (pc := 93) K dX3_hold_93 (rowC' (ix_lt h42)) (rowC (ix_lt h42)) h44 ?_
                  obtain ⟨v45, h46, h⟩ := bd h
                  refine v_cS2L (pc := 94)  K ca_yJ9_min_f86c9 ml_RX3_240 (t_J9_min_f86c9 _ K.nt K.ad s27.2 a2 (s27.2.2 (4 + j41) j43) v45 h46) (Nat.le_of_ble_eq_true rfl) (by decide) (by decide) dX3_hold_94 ?_
                  obtain ⟨v47, h48, h⟩ := bd h
                  refine v_cS2L (pc := 97)  K ca_yJ9_max_f86c9 ml_RX3_243 (t_J9_max_f86c9 _ K.nt K.ad s27.2 a1 v45 v47 h48) (Nat.le_of_ble_eq_true rfl) (by decide) (by decide) dX3_hold_97 ?_
                  obtain ⟨j49, h50, h⟩ := bd h
                  refine v_lastore (pc := 100) K dX3_hold_100 (Nat.le_of_ble_eq_true rfl) rfl h50 ?_
                  cases h
                  exact hJ38
            · cases hF
              exact v_cV2X (pc := 35)  K ca_yX3_needFit ml_RX3_82 (Nat.le_of_ble_eq_true rfl) rfl rfl (t_X3_needFit _ K.nt K.ad s18 a0 a2 (.error e24) _ h23) (Nat.le_of_ble_eq_true rfl) (by decide) (by decide) dX3_hold_35 hN rfl rfl
          · cases hF
            exact v_cV2X (pc := 28)  K ca_yX3_needFit ml_RX3_82 (Nat.le_of_ble_eq_true rfl) rfl rfl (t_X3_needFit _ K.nt K.ad s14 a0 a1 (.error e20) _ h19) (Nat.le_of_ble_eq_true rfl) (by decide) (by decide) dX3_hold_28 hN rfl rfl
        · cases hF
          exact v_cS1X (pc := 22)  K ca_yX3_needArgument ml_RX3_73 (t_X3_needArgument _ K.nt K.ad s6 t9 (.error e16) _ h15) (Nat.le_of_ble_eq_true rfl) (by decide) (by decide) dX3_hold_22 hN rfl rfl
      clear h
      have h := h11
      refine v_lc_gt (pc := 13) (tgt := 21) K dX3_hold_13 dX3_hold_14 (by decide) (fun c12 => ?_) (fun c12 => ?_)
      · have h := it c12 h
        refine v_ic0 (pc := 21) K dX3_hold_21 ?_
        cases h
        exact hJ10
      · have h := ie c12 h
        refine v_ic1 (pc := 17) K dX3_hold_17 ?_
        refine v_goto (pc := 18) (tgt := 22) K dX3_hold_18 (by decide) ?_
        cases h
        exact hJ10
    · cases hF
      exact v_cS1X (pc := 7)  K ca_yX3_needMask ml_RX3_125 (t_X3_needMask _ K.nt K.ad s2 a3 (.error e8) _ h7) (Nat.le_of_ble_eq_true rfl) (by decide) (by decide) dX3_hold_7 hN rfl rfl
  · cases hF
    exact v_cV1X (pc := 2)  K ca_yX3_needColumn ml_RX3_66 (Nat.le_of_ble_eq_true rfl) rfl rfl (t_X3_needColumn _ K.nt K.ad σ a0 (.error e4) _ h3) (Nat.le_of_ble_eq_true rfl) (by decide) (by decide) dX3_hold_2 hN rfl rfl
set_option maxRecDepth 100000 in
def c_X3_fill (σ : St) (a0 : Int32) (a1 : Int64) (a2 : Int32) : Option (Except String Int32 × St) :=
  (xB (c_X3_needColumn σ a0) fun _ s2 => (xB (c_X3_needMask s2 a2) fun _ s6 => (xB (c_X3_needFit s6 a0 a1) fun _ s10 => ((lp 5000 (fun (s13 : Int32 × Int32 × St) => (if s13.2.2.1 1 0 ≤ s13.2.1 then some (.inr (s13.1, s13.2.2)) else ((c_X1_isUnder s13.2.2 s13.2.1 a2).bind fun v21 => ((if v21 = 0 then some (s13.1, s13.2.2) else ((ix a0 6).bind fun j27 => ((ix s13.2.1 192).bind fun j29 => ((if s13.2.2.2 (4 + j27) j29 = ((-9223372036854775808) : Int64) then some (1 : Int32) else some (0 : Int32)).bind fun (t31 : Int32) => ((ix a0 6).bind fun j35 => ((ix s13.2.1 192).bind fun j37 => some ((s13.1 + t31), (sL s13.2.2 (4 + j35) j37 a1)))))))).bind fun (t23 : Int32 × St) => some (.inl (t23.1, (s13.2.1 + 1), t23.2)))))) ((0 : Int32), (0 : Int32), s10)).bind fun (r14 : Int32 × St) => some (.ok r14.1, r14.2)))))
set_option maxHeartbeats 4000000 in
set_option maxRecDepth 100000 in
theorem t_X3_fill (l : Launch) (hnt : l.stackTraces = false) {E : Ev} {base : Nat} (hE : Adr YC E base) (σ : St) (a0 : Int32) (a1 : Int64) (a2 : Int32) (r : Except String Int32) (σ' : St) (h : c_X3_fill σ a0 a1 a2 = some (r, σ')) : Ctr l yX3_fill cX3_fill 7 (some .int) 8 144 YC E base [.ref (E.2.2 0), .int a0, .long a1, .int a2] σ (rI r) σ' := by
  unfold c_X3_fill at h
  refine ofV 2 (by decide +kernel) rfl hE hnt (Nat.le_of_ble_eq_true rfl) rfl (fun M hN K => ?_)
  refine v_aload0 (pc := 0) K dX3_fill_0 ?_
  refine v_iload1 (pc := 1) K dX3_fill_1 ?_
  rcases xb h with ⟨v1, s2, h3, h⟩ | ⟨e4, s2, h3, hF⟩
  · refine v_cV1U (pc := 2) K ca_yX3_needColumn ml_RX3_66 (Nat.le_of_ble_eq_true rfl) rfl rfl (t_X3_needColumn _ K.nt K.ad σ a0 (.ok v1) s2 h3) (Nat.le_of_ble_eq_true rfl) (by decide) (by decide) dX3_fill_2 ?_
    refine v_iload4 (pc := 5) K dX3_fill_5 ?_
    rcases xb h with ⟨v5, s6, h7, h⟩ | ⟨e8, s6, h7, hF⟩
    · refine v_cS1U (pc := 7) K ca_yX3_needMask ml_RX3_125 (t_X3_needMask _ K.nt K.ad s2 a2 (.ok v5) s6 h7) (Nat.le_of_ble_eq_true rfl) (by decide) (by decide) dX3_fill_7 ?_
      refine v_aload0 (pc := 10) K dX3_fill_10 ?_
      refine v_iload1 (pc := 11) K dX3_fill_11 ?_
      refine v_lload2 (pc := 12) K dX3_fill_12 ?_
      rcases xb h with ⟨v9, s10, h11, h⟩ | ⟨e12, s10, h11, hF⟩
      · refine v_cV2U (pc := 13) K ca_yX3_needFit ml_RX3_82 (Nat.le_of_ble_eq_true rfl) rfl rfl (t_X3_needFit _ K.nt K.ad s6 a0 a1 (.ok v9) s10 h11) (Nat.le_of_ble_eq_true rfl) (by decide) (by decide) dX3_fill_13 ?_
        refine v_ic0 (pc := 16) K dX3_fill_16 ?_
        refine v_istore5 (pc := 17) K dX3_fill_17 rfl (Nat.le_of_ble_eq_true rfl) ?_
        refine v_ic0 (pc := 19) K dX3_fill_19 ?_
        refine v_istore6 (pc := 20) K dX3_fill_20 rfl (Nat.le_of_ble_eq_true rfl) ?_
        obtain ⟨r14, h16, h⟩ := bd h
        have hJ15 : V (mkX M YC E base 7 (rI r) σ') r14.2 96 [none, none, none, none, none, some (.int r14.1), none] [] := by
          refine v_iload5 (pc := 96) K dX3_fill_96 ?_
          cases h
          exact v_iret (pc := 98) K dX3_fill_98 rfl rfl
        clear h
        have hL39 := lpv h16 (fun s13 : Int32 × Int32 × St => V (mkX M YC E base 7 (rI r) σ') s13.2.2 22 [some (.ref (E.2.2 0)), some (.int a0), some (.long a1), none, some (.int a2), some (.int s13.1), some (.int s13.2.1)] [])
        refine hL39 (fun s13 o h hk => ?_)
        refine v_iload6 (pc := 22) K dX3_fill_22 ?_
        refine v_aload0 (pc := 24) K dX3_fill_24 ?_
        refine v_getR (pc := 25) K fl_RX3_14 dX3_fill_25 (Nat.le_of_ble_eq_true rfl) rfl rfl ?_
        refine v_getI (pc := 28) K fl_RX3_76 dX3_fill_28 (Nat.le_of_ble_eq_true rfl) rfl rfl ?_
        refine v_icmp_ge (pc := 31) (tgt := 96) K dX3_fill_31 (by decide) (fun c20 => ?_) (fun c20 => ?_)
        · have h := it c20 h
          have e := lx h hk
          cases e
          exact v_fg [false, false, false, true, false, true, false] hJ15
        · have h := ie c20 h
          refine v_aload0 (pc := 34) K dX3_fill_34 ?_
          refine v_getR (pc := 35) K fl_RX3_14 dX3_fill_35 (Nat.le_of_ble_eq_true rfl) rfl rfl ?_
          refine v_iload6 (pc := 38) K dX3_fill_38 ?_
          refine v_iload4 (pc := 40) K dX3_fill_40 ?_
          obtain ⟨v21, h22, h⟩ := bd h
          refine v_cV2I (pc := 42)  K ca_yX1_isUnder ml_RX3_162 (Nat.le_of_ble_eq_true rfl) rfl rfl (t_X1_isUnder _ K.nt K.ad s13.2.2 s13.2.1 a2 v21 h22) (Nat.le_of_ble_eq_true rfl) (by decide) (by decide) dX3_fill_42 ?_
          obtain ⟨t23, h25, h⟩ := bd h
          have hJ24 : V (mkX M YC E base 7 (rI r) σ') t23.2 90 [some (.ref (E.2.2 0)), some (.int a0), some (.long a1), none, some (.int a2), some (.int t23.1), some (.int s13.2.1)] [] := by
            refine v_iinc6 (pc := 90) (w := 1) K dX3_fill_90 rfl (Nat.le_of_ble_eq_true rfl) (by decide) ?_
            refine v_goto (pc := 93) (tgt := 22) K dX3_fill_93 (by decide) ?_
            have e := lfc h hk
            exact e
          clear h
          have h := h25
          refine v_if_eq (pc := 45) (tgt := 90) K dX3_fill_45 (by decide) (fun c26 => ?_) (fun c26 => ?_)
          · have h := it c26 h
            cases h
            exact hJ24
          · have h := ie c26 h
            refine v_iload5 (pc := 48) K dX3_fill_48 ?_
            refine v_aload0 (pc := 50) K dX3_fill_50 ?_
            refine v_getR (pc := 51) K fl_RX3_14 dX3_fill_51 (Nat.le_of_ble_eq_true rfl) rfl rfl ?_
            refine v_getR (pc := 54) K fl_RX3_86 dX3_fill_54 (Nat.le_of_ble_eq_true rfl) rfl rfl ?_
            refine v_iload1 (pc := 57) K dX3_fill_57 ?_
            obtain ⟨j27, h28, h⟩ := bd h
            refine v_aal (pc := 58) (b := 4) K dX3_fill_58 (Nat.le_of_ble_eq_true rfl) rfl rfl h28 ?_
            refine v_iload6 (pc := 59) K dX3_fill_59 ?_
            obtain ⟨j29, h30, h⟩ := bd h
            refine v_laload (pc := 61) K dX3_fill_61 (rowC' (ix_lt h28)) (rowC (ix_lt h28)) h30 ?_
            refine v_ldc2 (pc := 62) K dX3_fill_62 cl_RX3_90 ?_
            obtain ⟨t31, h33, h⟩ := bd h
            have hJ32 : V (mkX M YC E base 7 (rI r) σ') s13.2.2 74 [some (.ref (E.2.2 0)), some (.int a0), some (.long a1), none, some (.int a2), none, some (.int s13.2.1)] [.int t31, .int s13.1] := by
              refine v_iadd (pc := 74) K dX3_fill_74 ?_
              refine v_istore5 (pc := 75) K dX3_fill_75 rfl (Nat.le_of_ble_eq_true rfl) ?_
              refine v_aload0 (pc := 77) K dX3_fill_77 ?_
              refine v_getR (pc := 78) K fl_RX3_14 dX3_fill_78 (Nat.le_of_ble_eq_true rfl) rfl rfl ?_
              refine v_getR (pc := 81) K fl_RX3_86 dX3_fill_81 (Nat.le_of_ble_eq_true rfl) rfl rfl ?_
              refine v_iload1 (pc := 84) K dX3_fill_84 ?_
              obtain ⟨j35, h36, h⟩ := bd h
              refine v_aal (pc := 85) (b := 4) K dX3_fill_85 (Nat.le_of_ble_eq_true rfl) rfl rfl h36 ?_
              refine v_iload6 (pc := 86) K dX3_fill_86 ?_
              refine v_lload2 (pc := 88) K dX3_fill_88 ?_
              obtain ⟨j37, h38, h⟩ := bd h
              refine v_lastore (pc := 89) K dX3_fill_89 (rowC' (ix_lt h36)) (rowC (ix_lt h36)) h38 ?_
              cases h
              exact hJ24
            clear h
            have h := h33
            refine v_lc_ne (pc := 65) (tgt := 73) K dX3_fill_65 dX3_fill_66 (by decide) (fun c34 => ?_) (fun c34 => ?_)
            · have h := ie c34 h
              refine v_ic0 (pc := 73) K dX3_fill_73 ?_
              cases h
              exact (v_fg [true, true, true, true, true, false, true] hJ32)
            · have h := it c34 h
              refine v_ic1 (pc := 69) K dX3_fill_69 ?_
              refine v_goto (pc := 70) (tgt := 74) K dX3_fill_70 (by decide) ?_
              cases h
              exact (v_fg [true, true, true, true, true, false, true] hJ32)
      · cases hF
        exact v_cV2X (pc := 13)  K ca_yX3_needFit ml_RX3_82 (Nat.le_of_ble_eq_true rfl) rfl rfl (t_X3_needFit _ K.nt K.ad s6 a0 a1 (.error e12) _ h11) (Nat.le_of_ble_eq_true rfl) (by decide) (by decide) dX3_fill_13 hN rfl rfl
    · cases hF
      exact v_cS1X (pc := 7)  K ca_yX3_needMask ml_RX3_125 (t_X3_needMask _ K.nt K.ad s2 a2 (.error e8) _ h7) (Nat.le_of_ble_eq_true rfl) (by decide) (by decide) dX3_fill_7 hN rfl rfl
  · cases hF
    exact v_cV1X (pc := 2)  K ca_yX3_needColumn ml_RX3_66 (Nat.le_of_ble_eq_true rfl) rfl rfl (t_X3_needColumn _ K.nt K.ad σ a0 (.error e4) _ h3) (Nat.le_of_ble_eq_true rfl) (by decide) (by decide) dX3_fill_2 hN rfl rfl
set_option maxRecDepth 100000 in
def c_X3_copy (σ : St) (a0 : Int32) (a1 : Int32) (a2 : Int32) : Option (Except String Int32 × St) :=
  (xB (c_X3_needColumn σ a0) fun _ s2 => (xB (c_X3_needColumn s2 a1) fun _ s6 => (xB (c_X3_needMask s6 a2) fun _ s10 => ((c_X3_expectAsItIs s10 a0).bind fun v13 => ((lp 5000 (fun (s15 : Int32 × St) => (if s15.2.1 1 0 ≤ s15.1 then some (.inr s15.2) else ((c_X1_isUnder s15.2 s15.1 a2).bind fun v23 => ((if v23 = 0 then some s15.2 else ((ix a1 6).bind fun j29 => ((ix s15.1 192).bind fun j31 => ((ix s15.1 192).bind fun j33 => some (sL s15.2 27 j33 (s15.2.2 (4 + j29) j31)))))).bind fun (t25 : St) => some (.inl ((s15.1 + 1), t25)))))) ((0 : Int32), v13)).bind fun (r16 : St) => (xB (c_X3_come r16 a0) fun v35 s36 => some (.ok v35, s36)))))))
set_option maxHeartbeats 4000000 in
set_option maxRecDepth 100000 in
theorem t_X3_copy (l : Launch) (hnt : l.stackTraces = false) {E : Ev} {base : Nat} (hE : Adr YC E base) (σ : St) (a0 : Int32) (a1 : Int32) (a2 : Int32) (r : Except String Int32) (σ' : St) (h : c_X3_copy σ a0 a1 a2 = some (r, σ')) : Ctr l yX3_copy cX3_copy 5 (some .int) 8 145 YC E base [.ref (E.2.2 0), .int a0, .int a1, .int a2] σ (rI r) σ' := by
  unfold c_X3_copy at h
  refine ofV 1 (by decide +kernel) rfl hE hnt (Nat.le_of_ble_eq_true rfl) rfl (fun M hN K => ?_)
  refine v_aload0 (pc := 0) K dX3_copy_0 ?_
  refine v_iload1 (pc := 1) K dX3_copy_1 ?_
  rcases xb h with ⟨v1, s2, h3, h⟩ | ⟨e4, s2, h3, hF⟩
  · refine v_cV1U (pc := 2) K ca_yX3_needColumn ml_RX3_66 (Nat.le_of_ble_eq_true rfl) rfl rfl (t_X3_needColumn _ K.nt K.ad σ a0 (.ok v1) s2 h3) (Nat.le_of_ble_eq_true rfl) (by decide) (by decide) dX3_copy_2 ?_
    refine v_aload0 (pc := 5) K dX3_copy_5 ?_
    refine v_iload2 (pc := 6) K dX3_copy_6 ?_
    rcases xb h with ⟨v5, s6, h7, h⟩ | ⟨e8, s6, h7, hF⟩
    · refine v_cV1U (pc := 7) K ca_yX3_needColumn ml_RX3_66 (Nat.le_of_ble_eq_true rfl) rfl rfl (t_X3_needColumn _ K.nt K.ad s2 a1 (.ok v5) s6 h7) (Nat.le_of_ble_eq_true rfl) (by decide) (by decide) dX3_copy_7 ?_
      refine v_iload3 (pc := 10) K dX3_copy_10 ?_
      rcases xb h with ⟨v9, s10, h11, h⟩ | ⟨e12, s10, h11, hF⟩
      · refine v_cS1U (pc := 11) K ca_yX3_needMask ml_RX3_125 (t_X3_needMask _ K.nt K.ad s6 a2 (.ok v9) s10 h11) (Nat.le_of_ble_eq_true rfl) (by decide) (by decide) dX3_copy_11 ?_
        refine v_aload0 (pc := 14) K dX3_copy_14 ?_
        refine v_iload1 (pc := 15) K dX3_copy_15 ?_
        obtain ⟨v13, h14, h⟩ := bd h
        refine v_cV1U (pc := 16)  K ca_yX3_expectAsItIs ml_RX3_252 (Nat.le_of_ble_eq_true rfl) rfl rfl (t_X3_expectAsItIs _ K.nt K.ad s10 a0 v13 h14) (Nat.le_of_ble_eq_true rfl) (by decide) (by decide) dX3_copy_16 ?_
        refine v_ic0 (pc := 19) K dX3_copy_19 ?_
        refine v_istore4 (pc := 20) K dX3_copy_20 rfl (Nat.le_of_ble_eq_true rfl) ?_
        obtain ⟨r16, h18, h⟩ := bd h
        have hJ17 : V (mkX M YC E base 5 (rI r) σ') r16 72 [some (.ref (E.2.2 0)), some (.int a0), none, none, none] [] := by
          refine v_aload0 (pc := 72) K dX3_copy_72 ?_
          refine v_iload1 (pc := 73) K dX3_copy_73 ?_
          rcases xb h with ⟨v35, s36, h37, h⟩ | ⟨e38, s36, h37, hF⟩
          · refine v_cV1I (pc := 74) K ca_yX3_come ml_RX3_258 (Nat.le_of_ble_eq_true rfl) rfl rfl (t_X3_come _ K.nt K.ad r16 a0 (.ok v35) s36 h37) (Nat.le_of_ble_eq_true rfl) (by decide) (by decide) dX3_copy_74 ?_
            cases h
            exact v_iret (pc := 77) K dX3_copy_77 rfl rfl
          · cases hF
            exact v_cV1X (pc := 74)  K ca_yX3_come ml_RX3_258 (Nat.le_of_ble_eq_true rfl) rfl rfl (t_X3_come _ K.nt K.ad r16 a0 (.error e38) _ h37) (Nat.le_of_ble_eq_true rfl) (by decide) (by decide) dX3_copy_74 hN rfl rfl
        clear h
        have hL39 := lpv h18 (fun s15 : Int32 × St => V (mkX M YC E base 5 (rI r) σ') s15.2 22 [some (.ref (E.2.2 0)), some (.int a0), some (.int a1), some (.int a2), some (.int s15.1)] [])
        refine hL39 (fun s15 o h hk => ?_)
        refine v_iload4 (pc := 22) K dX3_copy_22 ?_
        refine v_aload0 (pc := 24) K dX3_copy_24 ?_
        refine v_getR (pc := 25) K fl_RX3_14 dX3_copy_25 (Nat.le_of_ble_eq_true rfl) rfl rfl ?_
        refine v_getI (pc := 28) K fl_RX3_76 dX3_copy_28 (Nat.le_of_ble_eq_true rfl) rfl rfl ?_
        refine v_icmp_ge (pc := 31) (tgt := 72) K dX3_copy_31 (by decide) (fun c22 => ?_) (fun c22 => ?_)
        · have h := it c22 h
          have e := lx h hk
          cases e
          exact v_fg [true, true, false, false, false] hJ17
        · have h := ie c22 h
          refine v_aload0 (pc := 34) K dX3_copy_34 ?_
          refine v_getR (pc := 35) K fl_RX3_14 dX3_copy_35 (Nat.le_of_ble_eq_true rfl) rfl rfl ?_
          refine v_iload4 (pc := 38) K dX3_copy_38 ?_
          refine v_iload3 (pc := 40) K dX3_copy_40 ?_
          obtain ⟨v23, h24, h⟩ := bd h
          refine v_cV2I (pc := 41)  K ca_yX1_isUnder ml_RX3_162 (Nat.le_of_ble_eq_true rfl) rfl rfl (t_X1_isUnder _ K.nt K.ad s15.2 s15.1 a2 v23 h24) (Nat.le_of_ble_eq_true rfl) (by decide) (by decide) dX3_copy_41 ?_
          obtain ⟨t25, h27, h⟩ := bd h
          have hJ26 : V (mkX M YC E base 5 (rI r) σ') t25 66 [some (.ref (E.2.2 0)), some (.int a0), some (.int a1), some (.int a2), some (.int s15.1)] [] := by
            refine v_iinc4 (pc := 66) (w := 1) K dX3_copy_66 rfl (Nat.le_of_ble_eq_true rfl) (by decide) ?_
            refine v_goto (pc := 69) (tgt := 22) K dX3_copy_69 (by decide) ?_
            have e := lfc h hk
            exact e
          clear h
          have h := h27
          refine v_if_eq (pc := 44) (tgt := 66) K dX3_copy_44 (by decide) (fun c28 => ?_) (fun c28 => ?_)
          · have h := it c28 h
            cases h
            exact hJ26
          · have h := ie c28 h
            refine v_aload0 (pc := 47) K dX3_copy_47 ?_
            refine v_getR (pc := 48) K fl_RX3_40 dX3_copy_48 (Nat.le_of_ble_eq_true rfl) rfl rfl ?_
            refine v_iload4 (pc := 51) K dX3_copy_51 ?_
            refine v_aload0 (pc := 53) K dX3_copy_53 ?_
            refine v_getR (pc := 54) K fl_RX3_14 dX3_copy_54 (Nat.le_of_ble_eq_true rfl) rfl rfl ?_
            refine v_getR (pc := 57) K fl_RX3_86 dX3_copy_57 (Nat.le_of_ble_eq_true rfl) rfl rfl ?_
            refine v_iload2 (pc := 60) K dX3_copy_60 ?_
            obtain ⟨j29, h30, h⟩ := bd h
            refine v_aal (pc := 61) (b := 4) K dX3_copy_61 (Nat.le_of_ble_eq_true rfl) rfl rfl h30 ?_
            refine v_iload4 (pc := 62) K dX3_copy_62 ?_
            obtain ⟨j31, h32, h⟩ := bd h
            refine v_laload (pc := 64) K dX3_copy_64 (rowC' (ix_lt h30)) (rowC (ix_lt h30)) h32 ?_
            obtain ⟨j33, h34, h⟩ := bd h
            refine v_lastore (pc := 65) K dX3_copy_65 (Nat.le_of_ble_eq_true rfl) rfl h34 ?_
            cases h
            exact hJ26
      · cases hF
        exact v_cS1X (pc := 11)  K ca_yX3_needMask ml_RX3_125 (t_X3_needMask _ K.nt K.ad s6 a2 (.error e12) _ h11) (Nat.le_of_ble_eq_true rfl) (by decide) (by decide) dX3_copy_11 hN rfl rfl
    · cases hF
      exact v_cV1X (pc := 7)  K ca_yX3_needColumn ml_RX3_66 (Nat.le_of_ble_eq_true rfl) rfl rfl (t_X3_needColumn _ K.nt K.ad s2 a1 (.error e8) _ h7) (Nat.le_of_ble_eq_true rfl) (by decide) (by decide) dX3_copy_7 hN rfl rfl
  · cases hF
    exact v_cV1X (pc := 2)  K ca_yX3_needColumn ml_RX3_66 (Nat.le_of_ble_eq_true rfl) rfl rfl (t_X3_needColumn _ K.nt K.ad σ a0 (.error e4) _ h3) (Nat.le_of_ble_eq_true rfl) (by decide) (by decide) dX3_copy_2 hN rfl rfl
set_option maxRecDepth 100000 in
def c_X3_pick (σ : St) (a0 : Int32) (a1 : Int32) (a2 : Int32) (a3 : Int32) : Option (Except String Int32 × St) :=
  (xB (c_X3_needColumn σ a0) fun _ s2 => (xB (c_X3_needColumn s2 a1) fun _ s6 => (xB (c_X3_needMask s6 a3) fun _ s10 => ((c_X3_expectAsItIs s10 a0).bind fun v13 => ((lp 5000 (fun (s15 : Int32 × St) => (if s15.2.1 1 0 ≤ s15.1 then some (.inr s15.2) else ((c_X1_areBothNumbered s15.2 a0 a1 s15.1 a3).bind fun v23 => ((if v23 = 0 then some s15.2 else ((ix a0 6).bind fun j29 => ((ix s15.1 192).bind fun j31 => ((ix a1 6).bind fun j33 => ((ix s15.1 192).bind fun j35 => ((if a2 = 0 then ((c_J9_min_f86c9 s15.2 (s15.2.2 (4 + j29) j31) (s15.2.2 (4 + j33) j35)).bind fun v41 => some v41) else ((c_J9_max_f86c9 s15.2 (s15.2.2 (4 + j29) j31) (s15.2.2 (4 + j33) j35)).bind fun v43 => some v43)).bind fun (t37 : Int64) => ((ix s15.1 192).bind fun j45 => some (sL s15.2 27 j45 t37)))))))).bind fun (t25 : St) => some (.inl ((s15.1 + 1), t25)))))) ((0 : Int32), v13)).bind fun (r16 : St) => (xB (c_X3_come r16 a0) fun v47 s48 => some (.ok v47, s48)))))))
set_option maxHeartbeats 4000000 in
set_option maxRecDepth 100000 in
theorem t_X3_pick (l : Launch) (hnt : l.stackTraces = false) {E : Ev} {base : Nat} (hE : Adr YC E base) (σ : St) (a0 : Int32) (a1 : Int32) (a2 : Int32) (a3 : Int32) (r : Except String Int32) (σ' : St) (h : c_X3_pick σ a0 a1 a2 a3 = some (r, σ')) : Ctr l yX3_pick cX3_pick 10 (some .int) 8 145 YC E base [.ref (E.2.2 0), .int a0, .int a1, .int a2, .int a3] σ (rI r) σ' := by
  unfold c_X3_pick at h
  refine ofV 5 (by decide +kernel) rfl hE hnt (Nat.le_of_ble_eq_true rfl) rfl (fun M hN K => ?_)
  refine v_aload0 (pc := 0) K dX3_pick_0 ?_
  refine v_iload1 (pc := 1) K dX3_pick_1 ?_
  rcases xb h with ⟨v1, s2, h3, h⟩ | ⟨e4, s2, h3, hF⟩
  · refine v_cV1U (pc := 2) K ca_yX3_needColumn ml_RX3_66 (Nat.le_of_ble_eq_true rfl) rfl rfl (t_X3_needColumn _ K.nt K.ad σ a0 (.ok v1) s2 h3) (Nat.le_of_ble_eq_true rfl) (by decide) (by decide) dX3_pick_2 ?_
    refine v_aload0 (pc := 5) K dX3_pick_5 ?_
    refine v_iload2 (pc := 6) K dX3_pick_6 ?_
    rcases xb h with ⟨v5, s6, h7, h⟩ | ⟨e8, s6, h7, hF⟩
    · refine v_cV1U (pc := 7) K ca_yX3_needColumn ml_RX3_66 (Nat.le_of_ble_eq_true rfl) rfl rfl (t_X3_needColumn _ K.nt K.ad s2 a1 (.ok v5) s6 h7) (Nat.le_of_ble_eq_true rfl) (by decide) (by decide) dX3_pick_7 ?_
      refine v_iload4 (pc := 10) K dX3_pick_10 ?_
      rcases xb h with ⟨v9, s10, h11, h⟩ | ⟨e12, s10, h11, hF⟩
      · refine v_cS1U (pc := 12) K ca_yX3_needMask ml_RX3_125 (t_X3_needMask _ K.nt K.ad s6 a3 (.ok v9) s10 h11) (Nat.le_of_ble_eq_true rfl) (by decide) (by decide) dX3_pick_12 ?_
        refine v_aload0 (pc := 15) K dX3_pick_15 ?_
        refine v_iload1 (pc := 16) K dX3_pick_16 ?_
        obtain ⟨v13, h14, h⟩ := bd h
        refine v_cV1U (pc := 17)  K ca_yX3_expectAsItIs ml_RX3_252 (Nat.le_of_ble_eq_true rfl) rfl rfl (t_X3_expectAsItIs _ K.nt K.ad s10 a0 v13 h14) (Nat.le_of_ble_eq_true rfl) (by decide) (by decide) dX3_pick_17 ?_
        refine v_ic0 (pc := 20) K dX3_pick_20 ?_
        refine v_istore5 (pc := 21) K dX3_pick_21 rfl (Nat.le_of_ble_eq_true rfl) ?_
        obtain ⟨r16, h18, h⟩ := bd h
        have hJ17 : V (mkX M YC E base 10 (rI r) σ') r16 113 [some (.ref (E.2.2 0)), some (.int a0), none, none, none, none, none, none, none, none] [] := by
          refine v_aload0 (pc := 113) K dX3_pick_113 ?_
          refine v_iload1 (pc := 114) K dX3_pick_114 ?_
          rcases xb h with ⟨v47, s48, h49, h⟩ | ⟨e50, s48, h49, hF⟩
          · refine v_cV1I (pc := 115) K ca_yX3_come ml_RX3_258 (Nat.le_of_ble_eq_true rfl) rfl rfl (t_X3_come _ K.nt K.ad r16 a0 (.ok v47) s48 h49) (Nat.le_of_ble_eq_true rfl) (by decide) (by decide) dX3_pick_115 ?_
            cases h
            exact v_iret (pc := 118) K dX3_pick_118 rfl rfl
          · cases hF
            exact v_cV1X (pc := 115)  K ca_yX3_come ml_RX3_258 (Nat.le_of_ble_eq_true rfl) rfl rfl (t_X3_come _ K.nt K.ad r16 a0 (.error e50) _ h49) (Nat.le_of_ble_eq_true rfl) (by decide) (by decide) dX3_pick_115 hN rfl rfl
        clear h
        have hL51 := lpv h18 (fun s15 : Int32 × St => V (mkX M YC E base 10 (rI r) σ') s15.2 23 [some (.ref (E.2.2 0)), some (.int a0), some (.int a1), some (.int a2), some (.int a3), some (.int s15.1), none, none, none, none] [])
        refine hL51 (fun s15 o h hk => ?_)
        refine v_iload5 (pc := 23) K dX3_pick_23 ?_
        refine v_aload0 (pc := 25) K dX3_pick_25 ?_
        refine v_getR (pc := 26) K fl_RX3_14 dX3_pick_26 (Nat.le_of_ble_eq_true rfl) rfl rfl ?_
        refine v_getI (pc := 29) K fl_RX3_76 dX3_pick_29 (Nat.le_of_ble_eq_true rfl) rfl rfl ?_
        refine v_icmp_ge (pc := 32) (tgt := 113) K dX3_pick_32 (by decide) (fun c22 => ?_) (fun c22 => ?_)
        · have h := it c22 h
          have e := lx h hk
          cases e
          exact v_fg [true, true, false, false, false, false, true, true, true, true] hJ17
        · have h := ie c22 h
          refine v_aload0 (pc := 35) K dX3_pick_35 ?_
          refine v_getR (pc := 36) K fl_RX3_14 dX3_pick_36 (Nat.le_of_ble_eq_true rfl) rfl rfl ?_
          refine v_iload1 (pc := 39) K dX3_pick_39 ?_
          refine v_iload2 (pc := 40) K dX3_pick_40 ?_
          refine v_iload5 (pc := 41) K dX3_pick_41 ?_
          refine v_iload4 (pc := 43) K dX3_pick_43 ?_
          obtain ⟨v23, h24, h⟩ := bd h
          refine v_cV4I (pc := 45)  K ca_yX1_areBothNumbered ml_RX3_158 (Nat.le_of_ble_eq_true rfl) rfl rfl (t_X1_areBothNumbered _ K.nt K.ad s15.2 a0 a1 s15.1 a3 v23 h24) (Nat.le_of_ble_eq_true rfl) (by decide) (by decide) dX3_pick_45 ?_
          obtain ⟨t25, h27, h⟩ := bd h
          have hJ26 : V (mkX M YC E base 10 (rI r) σ') t25 107 [some (.ref (E.2.2 0)), some (.int a0), some (.int a1), some (.int a2), some (.int a3), some (.int s15.1), none, none, none, none] [] := by
            refine v_iinc5 (pc := 107) (w := 1) K dX3_pick_107 rfl (Nat.le_of_ble_eq_true rfl) (by decide) ?_
            refine v_goto (pc := 110) (tgt := 23) K dX3_pick_110 (by decide) ?_
            have e := lfc h hk
            exact e
          clear h
          have h := h27
          refine v_if_eq (pc := 48) (tgt := 107) K dX3_pick_48 (by decide) (fun c28 => ?_) (fun c28 => ?_)
          · have h := it c28 h
            cases h
            exact hJ26
          · have h := ie c28 h
            refine v_aload0 (pc := 51) K dX3_pick_51 ?_
            refine v_getR (pc := 52) K fl_RX3_14 dX3_pick_52 (Nat.le_of_ble_eq_true rfl) rfl rfl ?_
            refine v_getR (pc := 55) K fl_RX3_86 dX3_pick_55 (Nat.le_of_ble_eq_true rfl) rfl rfl ?_
            refine v_iload1 (pc := 58) K dX3_pick_58 ?_
            obtain ⟨j29, h30, h⟩ := bd h
            refine v_aal (pc := 59) (b := 4) K dX3_pick_59 (Nat.le_of_ble_eq_true rfl) rfl rfl h30 ?_
            refine v_iload5 (pc := 60) K dX3_pick_60 ?_
            obtain ⟨j31, h32, h⟩ := bd h
            refine v_laload (pc := 62) K dX3_pick_62 (rowC' (ix_lt h30)) (rowC (ix_lt h30)) h32 ?_
            refine v_lstore6 (pc := 63) K dX3_pick_63 rfl (Nat.le_of_ble_eq_true rfl) ?_
            refine v_aload0 (pc := 65) K dX3_pick_65 ?_
            refine v_getR (pc := 66) K fl_RX3_14 dX3_pick_66 (Nat.le_of_ble_eq_true rfl) rfl rfl ?_
            refine v_getR (pc := 69) K fl_RX3_86 dX3_pick_69 (Nat.le_of_ble_eq_true rfl) rfl rfl ?_
            refine v_iload2 (pc := 72) K dX3_pick_72 ?_
            obtain ⟨j33, h34, h⟩ := bd h
            refine v_aal (pc := 73) (b := 4) K dX3_pick_73 (Nat.le_of_ble_eq_true rfl) rfl rfl h34 ?_
            refine v_iload5 (pc := 74) K dX3_pick_74 ?_
            obtain ⟨j35, h36, h⟩ := bd h
            refine v_laload (pc := 76) K dX3_pick_76 (rowC' (ix_lt h34)) (rowC (ix_lt h34)) h36 ?_
            refine v_lstore8 (pc := 77) K dX3_pick_77 rfl (Nat.le_of_ble_eq_true rfl) ?_
            refine v_aload0 (pc := 79) K dX3_pick_79 ?_
            refine v_getR (pc := 80) K fl_RX3_40 dX3_pick_80 (Nat.le_of_ble_eq_true rfl) rfl rfl ?_
            refine v_iload5 (pc := 83) K dX3_pick_83 ?_
            refine v_iload3 (pc := 85) K dX3_pick_85 ?_
            obtain ⟨t37, h39, h⟩ := bd h
            have hJ38 : V (mkX M YC E base 10 (rI r) σ') s15.2 106 [some (.ref (E.2.2 0)), some (.int a0), some (.int a1), some (.int a2), some (.int a3), some (.int s15.1), none, none, none, none] [.long t37, .int s15.1, .ref (E.2.2 27)] := by
              obtain ⟨j45, h46, h⟩ := bd h
              refine v_lastore (pc := 106) K dX3_pick_106 (Nat.le_of_ble_eq_true rfl) rfl h46 ?_
              cases h
              exact hJ26
            clear h
            have h := h39
            refine v_if_eq (pc := 86) (tgt := 99) K dX3_pick_86 (by decide) (fun c40 => ?_) (fun c40 => ?_)
            · have h := it c40 h
              refine v_lload6 (pc := 99) K dX3_pick_99 ?_
              refine v_lload8 (pc := 101) K dX3_pick_101 ?_
              obtain ⟨v41, h42, h⟩ := bd h
              refine v_cS2L (pc := 103)  K ca_yJ9_min_f86c9 ml_RX3_240 (t_J9_min_f86c9 _ K.nt K.ad s15.2 (s15.2.2 (4 + j29) j31) (s15.2.2 (4 + j33) j35) v41 h42) (Nat.le_of_ble_eq_true rfl) (by decide) (by decide) dX3_pick_103 ?_
              cases h
              exact (v_fg [true, true, true, true, true, true, false, true, false, true] hJ38)
            · have h := ie c40 h
              refine v_lload6 (pc := 89) K dX3_pick_89 ?_
              refine v_lload8 (pc := 91) K dX3_pick_91 ?_
              obtain ⟨v43, h44, h⟩ := bd h
              refine v_cS2L (pc := 93)  K ca_yJ9_max_f86c9 ml_RX3_243 (t_J9_max_f86c9 _ K.nt K.ad s15.2 (s15.2.2 (4 + j29) j31) (s15.2.2 (4 + j33) j35) v43 h44) (Nat.le_of_ble_eq_true rfl) (by decide) (by decide) dX3_pick_93 ?_
              refine v_goto (pc := 96) (tgt := 106) K dX3_pick_96 (by decide) ?_
              cases h
              exact (v_fg [true, true, true, true, true, true, false, true, false, true] hJ38)
      · cases hF
        exact v_cS1X (pc := 12)  K ca_yX3_needMask ml_RX3_125 (t_X3_needMask _ K.nt K.ad s6 a3 (.error e12) _ h11) (Nat.le_of_ble_eq_true rfl) (by decide) (by decide) dX3_pick_12 hN rfl rfl
    · cases hF
      exact v_cV1X (pc := 7)  K ca_yX3_needColumn ml_RX3_66 (Nat.le_of_ble_eq_true rfl) rfl rfl (t_X3_needColumn _ K.nt K.ad s2 a1 (.error e8) _ h7) (Nat.le_of_ble_eq_true rfl) (by decide) (by decide) dX3_pick_7 hN rfl rfl
  · cases hF
    exact v_cV1X (pc := 2)  K ca_yX3_needColumn ml_RX3_66 (Nat.le_of_ble_eq_true rfl) rfl rfl (t_X3_needColumn _ K.nt K.ad σ a0 (.error e4) _ h3) (Nat.le_of_ble_eq_true rfl) (by decide) (by decide) dX3_pick_2 hN rfl rfl
set_option maxRecDepth 100000 in
def c_X3_wipe (σ : St) (a0 : Int32) (a1 : Int32) : Option (Except String Int32 × St) :=
  (xB (c_X3_needColumn σ a0) fun _ s2 => (xB (c_X3_needMask s2 a1) fun _ s6 => ((lp 5000 (fun (s9 : Int32 × Int32 × St) => (if s9.2.2.1 1 0 ≤ s9.2.1 then some (.inr (s9.1, s9.2.2)) else ((c_X1_isNumbered s9.2.2 a0 s9.2.1 a1).bind fun v17 => ((if v17 = 0 then some (s9.1, s9.2.2) else ((ix a0 6).bind fun j23 => ((ix s9.2.1 192).bind fun j25 => some ((s9.1 + 1), (sL s9.2.2 (4 + j23) j25 ((-9223372036854775808) : Int64)))))).bind fun (t19 : Int32 × St) => some (.inl (t19.1, (s9.2.1 + 1), t19.2)))))) ((0 : Int32), (0 : Int32), s6)).bind fun (r10 : Int32 × St) => some (.ok r10.1, r10.2))))
set_option maxHeartbeats 4000000 in
set_option maxRecDepth 100000 in
theorem t_X3_wipe (l : Launch) (hnt : l.stackTraces = false) {E : Ev} {base : Nat} (hE : Adr YC E base) (σ : St) (a0 : Int32) (a1 : Int32) (r : Except String Int32) (σ' : St) (h : c_X3_wipe σ a0 a1 = some (r, σ')) : Ctr l yX3_wipe cX3_wipe 5 (some .int) 7 121 YC E base [.ref (E.2.2 0), .int a0, .int a1] σ (rI r) σ' := by
  unfold c_X3_wipe at h
  refine ofV 2 (by decide +kernel) rfl hE hnt (Nat.le_of_ble_eq_true rfl) rfl (fun M hN K => ?_)
  refine v_aload0 (pc := 0) K dX3_wipe_0 ?_
  refine v_iload1 (pc := 1) K dX3_wipe_1 ?_
  rcases xb h with ⟨v1, s2, h3, h⟩ | ⟨e4, s2, h3, hF⟩
  · refine v_cV1U (pc := 2) K ca_yX3_needColumn ml_RX3_66 (Nat.le_of_ble_eq_true rfl) rfl rfl (t_X3_needColumn _ K.nt K.ad σ a0 (.ok v1) s2 h3) (Nat.le_of_ble_eq_true rfl) (by decide) (by decide) dX3_wipe_2 ?_
    refine v_iload2 (pc := 5) K dX3_wipe_5 ?_
    rcases xb h with ⟨v5, s6, h7, h⟩ | ⟨e8, s6, h7, hF⟩
    · refine v_cS1U (pc := 6) K ca_yX3_needMask ml_RX3_125 (t_X3_needMask _ K.nt K.ad s2 a1 (.ok v5) s6 h7) (Nat.le_of_ble_eq_true rfl) (by decide) (by decide) dX3_wipe_6 ?_
      refine v_ic0 (pc := 9) K dX3_wipe_9 ?_
      refine v_istore3 (pc := 10) K dX3_wipe_10 rfl (Nat.le_of_ble_eq_true rfl) ?_
      refine v_ic0 (pc := 11) K dX3_wipe_11 ?_
      refine v_istore4 (pc := 12) K dX3_wipe_12 rfl (Nat.le_of_ble_eq_true rfl) ?_
      obtain ⟨r10, h12, h⟩ := bd h
      have hJ11 : V (mkX M YC E base 5 (rI r) σ') r10.2 64 [none, none, none, some (.int r10.1), none] [] := by
        refine v_iload3 (pc := 64) K dX3_wipe_64 ?_
        cases h
        exact v_iret (pc := 65) K dX3_wipe_65 rfl rfl
      clear h
      have hL27 := lpv h12 (fun s9 : Int32 × Int32 × St => V (mkX M YC E base 5 (rI r) σ') s9.2.2 14 [some (.ref (E.2.2 0)), some (.int a0), some (.int a1), some (.int s9.1), some (.int s9.2.1)] [])
      refine hL27 (fun s9 o h hk => ?_)
      refine v_iload4 (pc := 14) K dX3_wipe_14 ?_
      refine v_aload0 (pc := 16) K dX3_wipe_16 ?_
      refine v_getR (pc := 17) K fl_RX3_14 dX3_wipe_17 (Nat.le_of_ble_eq_true rfl) rfl rfl ?_
      refine v_getI (pc := 20) K fl_RX3_76 dX3_wipe_20 (Nat.le_of_ble_eq_true rfl) rfl rfl ?_
      refine v_icmp_ge (pc := 23) (tgt := 64) K dX3_wipe_23 (by decide) (fun c16 => ?_) (fun c16 => ?_)
      · have h := it c16 h
        have e := lx h hk
        cases e
        exact v_fg [false, false, false, true, false] hJ11
      · have h := ie c16 h
        refine v_aload0 (pc := 26) K dX3_wipe_26 ?_
        refine v_getR (pc := 27) K fl_RX3_14 dX3_wipe_27 (Nat.le_of_ble_eq_true rfl) rfl rfl ?_
        refine v_iload1 (pc := 30) K dX3_wipe_30 ?_
        refine v_iload4 (pc := 31) K dX3_wipe_31 ?_
        refine v_iload2 (pc := 33) K dX3_wipe_33 ?_
        obtain ⟨v17, h18, h⟩ := bd h
        refine v_cV3I (pc := 34)  K ca_yX1_isNumbered ml_RX3_150 (Nat.le_of_ble_eq_true rfl) rfl rfl (t_X1_isNumbered _ K.nt K.ad s9.2.2 a0 s9.2.1 a1 v17 h18) (Nat.le_of_ble_eq_true rfl) (by decide) (by decide) dX3_wipe_34 ?_
        obtain ⟨t19, h21, h⟩ := bd h
        have hJ20 : V (mkX M YC E base 5 (rI r) σ') t19.2 58 [some (.ref (E.2.2 0)), some (.int a0), some (.int a1), some (.int t19.1), some (.int s9.2.1)] [] := by
          refine v_iinc4 (pc := 58) (w := 1) K dX3_wipe_58 rfl (Nat.le_of_ble_eq_true rfl) (by decide) ?_
          refine v_goto (pc := 61) (tgt := 14) K dX3_wipe_61 (by decide) ?_
          have e := lfc h hk
          exact e
        clear h
        have h := h21
        refine v_if_eq (pc := 37) (tgt := 58) K dX3_wipe_37 (by decide) (fun c22 => ?_) (fun c22 => ?_)
        · have h := it c22 h
          cases h
          exact hJ20
        · have h := ie c22 h
          refine v_aload0 (pc := 40) K dX3_wipe_40 ?_
          refine v_getR (pc := 41) K fl_RX3_14 dX3_wipe_41 (Nat.le_of_ble_eq_true rfl) rfl rfl ?_
          refine v_getR (pc := 44) K fl_RX3_86 dX3_wipe_44 (Nat.le_of_ble_eq_true rfl) rfl rfl ?_
          refine v_iload1 (pc := 47) K dX3_wipe_47 ?_
          obtain ⟨j23, h24, h⟩ := bd h
          refine v_aal (pc := 48) (b := 4) K dX3_wipe_48 (Nat.le_of_ble_eq_true rfl) rfl rfl h24 ?_
          refine v_iload4 (pc := 49) K dX3_wipe_49 ?_
          refine v_ldc2 (pc := 51) K dX3_wipe_51 cl_RX3_90 ?_
          obtain ⟨j25, h26, h⟩ := bd h
          refine v_lastore (pc := 54) K dX3_wipe_54 (rowC' (ix_lt h24)) (rowC (ix_lt h24)) h26 ?_
          refine v_iinc3 (pc := 55) (w := 1) K dX3_wipe_55 rfl (Nat.le_of_ble_eq_true rfl) (by decide) ?_
          cases h
          exact hJ20
    · cases hF
      exact v_cS1X (pc := 6)  K ca_yX3_needMask ml_RX3_125 (t_X3_needMask _ K.nt K.ad s2 a1 (.error e8) _ h7) (Nat.le_of_ble_eq_true rfl) (by decide) (by decide) dX3_wipe_6 hN rfl rfl
  · cases hF
    exact v_cV1X (pc := 2)  K ca_yX3_needColumn ml_RX3_66 (Nat.le_of_ble_eq_true rfl) rfl rfl (t_X3_needColumn _ K.nt K.ad σ a0 (.error e4) _ h3) (Nat.le_of_ble_eq_true rfl) (by decide) (by decide) dX3_wipe_2 hN rfl rfl
set_option maxRecDepth 100000 in
def c_X3_widen (σ : St) (a0 : Int32) (a1 : Int32) : Option (Except String Int32 × St) :=
  (xB (c_X3_needColumn σ a0) fun _ s2 => (xB (c_X3_needWidth s2 a1) fun _ s6 => ((c_X1_leastWidth s6 a0).bind fun v9 => ((if a1 < v9 then some (0 : Int32) else some (1 : Int32)).bind fun (t11 : Int32) => (xB (c_X3_needAct s6 t11) fun _ s16 => ((ix a0 6).bind fun j19 => ((ix a0 6).bind fun j21 => some (.ok (s16.1 2 j19), (sI s16 2 j21 a1)))))))))
set_option maxHeartbeats 4000000 in
set_option maxRecDepth 100000 in
theorem t_X3_widen (l : Launch) (hnt : l.stackTraces = false) {E : Ev} {base : Nat} (hE : Adr YC E base) (σ : St) (a0 : Int32) (a1 : Int32) (r : Except String Int32) (σ' : St) (h : c_X3_widen σ a0 a1 = some (r, σ')) : Ctr l yX3_widen cX3_widen 4 (some .int) 8 140 YC E base [.ref (E.2.2 0), .int a0, .int a1] σ (rI r) σ' := by
  unfold c_X3_widen at h
  refine ofV 1 (by decide +kernel) rfl hE hnt (Nat.le_of_ble_eq_true rfl) rfl (fun M hN K => ?_)
  refine v_aload0 (pc := 0) K dX3_widen_0 ?_
  refine v_iload1 (pc := 1) K dX3_widen_1 ?_
  rcases xb h with ⟨v1, s2, h3, h⟩ | ⟨e4, s2, h3, hF⟩
  · refine v_cV1U (pc := 2) K ca_yX3_needColumn ml_RX3_66 (Nat.le_of_ble_eq_true rfl) rfl rfl (t_X3_needColumn _ K.nt K.ad σ a0 (.ok v1) s2 h3) (Nat.le_of_ble_eq_true rfl) (by decide) (by decide) dX3_widen_2 ?_
    refine v_iload2 (pc := 5) K dX3_widen_5 ?_
    rcases xb h with ⟨v5, s6, h7, h⟩ | ⟨e8, s6, h7, hF⟩
    · refine v_cS1U (pc := 6) K ca_yX3_needWidth ml_RX3_47 (t_X3_needWidth _ K.nt K.ad s2 a1 (.ok v5) s6 h7) (Nat.le_of_ble_eq_true rfl) (by decide) (by decide) dX3_widen_6 ?_
      refine v_aload0 (pc := 9) K dX3_widen_9 ?_
      refine v_aload0 (pc := 10) K dX3_widen_10 ?_
      refine v_getR (pc := 11) K fl_RX3_14 dX3_widen_11 (Nat.le_of_ble_eq_true rfl) rfl rfl ?_
      refine v_iload1 (pc := 14) K dX3_widen_14 ?_
      obtain ⟨v9, h10, h⟩ := bd h
      refine v_cV1I (pc := 15)  K ca_yX1_leastWidth ml_RX3_106 (Nat.le_of_ble_eq_true rfl) rfl rfl (t_X1_leastWidth _ K.nt K.ad s6 a0 v9 h10) (Nat.le_of_ble_eq_true rfl) (by decide) (by decide) dX3_widen_15 ?_
      refine v_iload2 (pc := 18) K dX3_widen_18 ?_
      obtain ⟨t11, h13, h⟩ := bd h
      have hJ12 : V (mkX M YC E base 4 (rI r) σ') s6 27 [some (.ref (E.2.2 0)), some (.int a0), some (.int a1), none] [.int t11, .ref (E.2.2 0)] := by
        rcases xb h with ⟨v15, s16, h17, h⟩ | ⟨e18, s16, h17, hF⟩
        · refine v_cV1U (pc := 27) K ca_yX3_needAct ml_RX3_268 (Nat.le_of_ble_eq_true rfl) rfl rfl (t_X3_needAct _ K.nt K.ad s6 t11 (.ok v15) s16 h17) (Nat.le_of_ble_eq_true rfl) (by decide) (by decide) dX3_widen_27 ?_
          refine v_aload0 (pc := 30) K dX3_widen_30 ?_
          refine v_getR (pc := 31) K fl_RX3_14 dX3_widen_31 (Nat.le_of_ble_eq_true rfl) rfl rfl ?_
          refine v_getR (pc := 34) K fl_RX3_58 dX3_widen_34 (Nat.le_of_ble_eq_true rfl) rfl rfl ?_
          refine v_iload1 (pc := 37) K dX3_widen_37 ?_
          obtain ⟨j19, h20, h⟩ := bd h
          refine v_iaload (pc := 38) K dX3_widen_38 (Nat.le_of_ble_eq_true rfl) rfl h20 ?_
          refine v_istore3 (pc := 39) K dX3_widen_39 rfl (Nat.le_of_ble_eq_true rfl) ?_
          refine v_aload0 (pc := 40) K dX3_widen_40 ?_
          refine v_getR (pc := 41) K fl_RX3_14 dX3_widen_41 (Nat.le_of_ble_eq_true rfl) rfl rfl ?_
          refine v_getR (pc := 44) K fl_RX3_58 dX3_widen_44 (Nat.le_of_ble_eq_true rfl) rfl rfl ?_
          refine v_iload1 (pc := 47) K dX3_widen_47 ?_
          refine v_iload2 (pc := 48) K dX3_widen_48 ?_
          obtain ⟨j21, h22, h⟩ := bd h
          refine v_iastore (pc := 49) K dX3_widen_49 (Nat.le_of_ble_eq_true rfl) rfl h22 ?_
          refine v_iload3 (pc := 50) K dX3_widen_50 ?_
          cases h
          exact v_iret (pc := 51) K dX3_widen_51 rfl rfl
        · cases hF
          exact v_cV1X (pc := 27)  K ca_yX3_needAct ml_RX3_268 (Nat.le_of_ble_eq_true rfl) rfl rfl (t_X3_needAct _ K.nt K.ad s6 t11 (.error e18) _ h17) (Nat.le_of_ble_eq_true rfl) (by decide) (by decide) dX3_widen_27 hN rfl rfl
      clear h
      have h := h13
      refine v_icmp_gt (pc := 19) (tgt := 26) K dX3_widen_19 (by decide) (fun c14 => ?_) (fun c14 => ?_)
      · have h := it c14 h
        refine v_ic0 (pc := 26) K dX3_widen_26 ?_
        cases h
        exact hJ12
      · have h := ie c14 h
        refine v_ic1 (pc := 22) K dX3_widen_22 ?_
        refine v_goto (pc := 23) (tgt := 27) K dX3_widen_23 (by decide) ?_
        cases h
        exact hJ12
    · cases hF
      exact v_cS1X (pc := 6)  K ca_yX3_needWidth ml_RX3_47 (t_X3_needWidth _ K.nt K.ad s2 a1 (.error e8) _ h7) (Nat.le_of_ble_eq_true rfl) (by decide) (by decide) dX3_widen_6 hN rfl rfl
  · cases hF
    exact v_cV1X (pc := 2)  K ca_yX3_needColumn ml_RX3_66 (Nat.le_of_ble_eq_true rfl) rfl rfl (t_X3_needColumn _ K.nt K.ad σ a0 (.error e4) _ h3) (Nat.le_of_ble_eq_true rfl) (by decide) (by decide) dX3_widen_2 hN rfl rfl
set_option maxRecDepth 100000 in
def c_X3_pickRows (σ : St) (a0 : Int32) (a1 : Int32) : Option (St) :=
  ((lp 5000 (fun (s1 : Int32 × St) => (if s1.2.1 1 0 ≤ s1.1 then some (.inr s1.2) else ((c_X1_isUnder s1.2 s1.1 a0).bind fun v9 => ((if v9 = a1 then ((c_X0_take s1.2 s1.1 ((-9223372036854775808) : Int64)).bind fun v15 => some v15) else some s1.2).bind fun (t11 : St) => some (.inl ((s1.1 + 1), t11)))))) ((0 : Int32), σ)).bind fun (r2 : St) => some r2)
set_option maxHeartbeats 4000000 in
set_option maxRecDepth 100000 in
theorem t_X3_pickRows (l : Launch) (hnt : l.stackTraces = false) {E : Ev} {base : Nat} (hE : Adr YC E base) (σ : St) (a0 : Int32) (a1 : Int32) (r : St) (h : c_X3_pickRows σ a0 a1 = some r) : Ctr l yX3_pickRows cX3_pickRows 4 none 2 43 YC E base [.ref (E.2.2 0), .int a0, .int a1] σ (.ok none) r := by
  unfold c_X3_pickRows at h
  refine ofV 1 (by decide +kernel) rfl hE hnt (Nat.le_of_ble_eq_true rfl) rfl (fun M hN K => ?_)
  refine v_ic0 (pc := 0) K dX3_pickRows_0 ?_
  refine v_istore3 (pc := 1) K dX3_pickRows_1 rfl (Nat.le_of_ble_eq_true rfl) ?_
  obtain ⟨r2, h4, h⟩ := bd h
  have hJ3 : V (mkX M YC E base 4 (.ok none) r) r2 43 [none, none, none, none] [] := by
    cases h
    exact v_vret (pc := 43) K dX3_pickRows_43 rfl rfl
  clear h
  have hL17 := lpv h4 (fun s1 : Int32 × St => V (mkX M YC E base 4 (.ok none) r) s1.2 2 [some (.ref (E.2.2 0)), some (.int a0), some (.int a1), some (.int s1.1)] [])
  refine hL17 (fun s1 o h hk => ?_)
  refine v_iload3 (pc := 2) K dX3_pickRows_2 ?_
  refine v_aload0 (pc := 3) K dX3_pickRows_3 ?_
  refine v_getR (pc := 4) K fl_RX3_14 dX3_pickRows_4 (Nat.le_of_ble_eq_true rfl) rfl rfl ?_
  refine v_getI (pc := 7) K fl_RX3_76 dX3_pickRows_7 (Nat.le_of_ble_eq_true rfl) rfl rfl ?_
  refine v_icmp_ge (pc := 10) (tgt := 43) K dX3_pickRows_10 (by decide) (fun c8 => ?_) (fun c8 => ?_)
  · have h := it c8 h
    have e := lx h hk
    cases e
    exact v_fg [false, false, false, false] hJ3
  · have h := ie c8 h
    refine v_aload0 (pc := 13) K dX3_pickRows_13 ?_
    refine v_getR (pc := 14) K fl_RX3_14 dX3_pickRows_14 (Nat.le_of_ble_eq_true rfl) rfl rfl ?_
    refine v_iload3 (pc := 17) K dX3_pickRows_17 ?_
    refine v_iload1 (pc := 18) K dX3_pickRows_18 ?_
    obtain ⟨v9, h10, h⟩ := bd h
    refine v_cV2I (pc := 19)  K ca_yX1_isUnder ml_RX3_162 (Nat.le_of_ble_eq_true rfl) rfl rfl (t_X1_isUnder _ K.nt K.ad s1.2 s1.1 a0 v9 h10) (Nat.le_of_ble_eq_true rfl) (by decide) (by decide) dX3_pickRows_19 ?_
    refine v_iload2 (pc := 22) K dX3_pickRows_22 ?_
    obtain ⟨t11, h13, h⟩ := bd h
    have hJ12 : V (mkX M YC E base 4 (.ok none) r) t11 37 [some (.ref (E.2.2 0)), some (.int a0), some (.int a1), some (.int s1.1)] [] := by
      refine v_iinc3 (pc := 37) (w := 1) K dX3_pickRows_37 rfl (Nat.le_of_ble_eq_true rfl) (by decide) ?_
      refine v_goto (pc := 40) (tgt := 2) K dX3_pickRows_40 (by decide) ?_
      have e := lfc h hk
      exact e
    clear h
    have h := h13
    refine v_icmp_ne (pc := 23) (tgt := 37) K dX3_pickRows_23 (by decide) (fun c14 => ?_) (fun c14 => ?_)
    · have h := ie c14 h
      cases h
      exact hJ12
    · have h := it c14 h
      refine v_aload0 (pc := 26) K dX3_pickRows_26 ?_
      refine v_getR (pc := 27) K fl_RX3_25 dX3_pickRows_27 (Nat.le_of_ble_eq_true rfl) rfl rfl ?_
      refine v_iload3 (pc := 30) K dX3_pickRows_30 ?_
      refine v_ldc2 (pc := 31) K dX3_pickRows_31 cl_RX3_90 ?_
      obtain ⟨v15, h16, h⟩ := bd h
      refine v_cV2U (pc := 34)  K ca_yX0_take ml_RX3_279 (Nat.le_of_ble_eq_true rfl) rfl rfl (t_X0_take _ K.nt K.ad s1.2 s1.1 ((-9223372036854775808) : Int64) v15 h16) (Nat.le_of_ble_eq_true rfl) (by decide) (by decide) dX3_pickRows_34 ?_
      cases h
      exact hJ12
set_option maxRecDepth 100000 in
def c_X3_remove (σ : St) (a0 : Int32) : Option (Except String Int32 × St) :=
  (xB (c_X3_needMask σ a0) fun _ s2 => ((c_X0_restart s2).bind fun v5 => ((c_X3_pickRows v5 a0 (0 : Int32)).bind fun v7 => ((c_X3_arrange v7).bind fun v9 => some (.ok (v9.2.1 1 0), v9.2)))))
set_option maxHeartbeats 4000000 in
set_option maxRecDepth 100000 in
theorem t_X3_remove (l : Launch) (hnt : l.stackTraces = false) {E : Ev} {base : Nat} (hE : Adr YC E base) (σ : St) (a0 : Int32) (r : Except String Int32) (σ' : St) (h : c_X3_remove σ a0 = some (r, σ')) : Ctr l yX3_remove cX3_remove 2 (some .int) 7 120 YC E base [.ref (E.2.2 0), .int a0] σ (rI r) σ' := by
  unfold c_X3_remove at h
  refine ofV 0 (by decide +kernel) rfl hE hnt (Nat.le_of_ble_eq_true rfl) rfl (fun M hN K => ?_)
  refine v_iload1 (pc := 0) K dX3_remove_0 ?_
  rcases xb h with ⟨v1, s2, h3, h⟩ | ⟨e4, s2, h3, hF⟩
  · refine v_cS1U (pc := 1) K ca_yX3_needMask ml_RX3_125 (t_X3_needMask _ K.nt K.ad σ a0 (.ok v1) s2 h3) (Nat.le_of_ble_eq_true rfl) (by decide) (by decide) dX3_remove_1 ?_
    refine v_aload0 (pc := 4) K dX3_remove_4 ?_
    refine v_getR (pc := 5) K fl_RX3_25 dX3_remove_5 (Nat.le_of_ble_eq_true rfl) rfl rfl ?_
    obtain ⟨v5, h6, h⟩ := bd h
    refine v_cV0U (pc := 8)  K ca_yX0_restart ml_RX3_271 (Nat.le_of_ble_eq_true rfl) rfl rfl (t_X0_restart _ K.nt K.ad s2 v5 h6) (Nat.le_of_ble_eq_true rfl) (by decide) (by decide) dX3_remove_8 ?_
    refine v_aload0 (pc := 11) K dX3_remove_11 ?_
    refine v_iload1 (pc := 12) K dX3_remove_12 ?_
    refine v_ic0 (pc := 13) K dX3_remove_13 ?_
    obtain ⟨v7, h8, h⟩ := bd h
    refine v_cV2U (pc := 14)  K ca_yX3_pickRows ml_RX3_272 (Nat.le_of_ble_eq_true rfl) rfl rfl (t_X3_pickRows _ K.nt K.ad v5 a0 (0 : Int32) v7 h8) (Nat.le_of_ble_eq_true rfl) (by decide) (by decide) dX3_remove_14 ?_
    refine v_aload0 (pc := 17) K dX3_remove_17 ?_
    obtain ⟨v9, h10, h⟩ := bd h
    refine v_cV0I (pc := 18)  K ca_yX3_arrange ml_RX3_276 (Nat.le_of_ble_eq_true rfl) rfl rfl (t_X3_arrange _ K.nt K.ad v7 v9 h10) (Nat.le_of_ble_eq_true rfl) (by decide) (by decide) dX3_remove_18 ?_
    refine v_popI (pc := 21) K dX3_remove_21 ?_
    refine v_aload0 (pc := 22) K dX3_remove_22 ?_
    refine v_getR (pc := 23) K fl_RX3_14 dX3_remove_23 (Nat.le_of_ble_eq_true rfl) rfl rfl ?_
    refine v_getI (pc := 26) K fl_RX3_76 dX3_remove_26 (Nat.le_of_ble_eq_true rfl) rfl rfl ?_
    cases h
    exact v_iret (pc := 29) K dX3_remove_29 rfl rfl
  · cases hF
    exact v_cS1X (pc := 1)  K ca_yX3_needMask ml_RX3_125 (t_X3_needMask _ K.nt K.ad σ a0 (.error e4) _ h3) (Nat.le_of_ble_eq_true rfl) (by decide) (by decide) dX3_remove_1 hN rfl rfl
set_option maxRecDepth 100000 in
def c_X3_first (σ : St) (a0 : Int32) : Option (Except String Int32 × St) :=
  (xB (c_X3_needMask σ a0) fun _ s2 => ((c_X0_restart s2).bind fun v5 => ((c_X3_pickRows v5 a0 (1 : Int32)).bind fun v7 => ((c_X3_pickRows v7 a0 (0 : Int32)).bind fun v9 => ((c_X3_arrange v9).bind fun v11 => some (.ok v11.1, v11.2))))))
set_option maxHeartbeats 4000000 in
set_option maxRecDepth 100000 in
theorem t_X3_first (l : Launch) (hnt : l.stackTraces = false) {E : Ev} {base : Nat} (hE : Adr YC E base) (σ : St) (a0 : Int32) (r : Except String Int32) (σ' : St) (h : c_X3_first σ a0 = some (r, σ')) : Ctr l yX3_first cX3_first 2 (some .int) 7 120 YC E base [.ref (E.2.2 0), .int a0] σ (rI r) σ' := by
  unfold c_X3_first at h
  refine ofV 0 (by decide +kernel) rfl hE hnt (Nat.le_of_ble_eq_true rfl) rfl (fun M hN K => ?_)
  refine v_iload1 (pc := 0) K dX3_first_0 ?_
  rcases xb h with ⟨v1, s2, h3, h⟩ | ⟨e4, s2, h3, hF⟩
  · refine v_cS1U (pc := 1) K ca_yX3_needMask ml_RX3_125 (t_X3_needMask _ K.nt K.ad σ a0 (.ok v1) s2 h3) (Nat.le_of_ble_eq_true rfl) (by decide) (by decide) dX3_first_1 ?_
    refine v_aload0 (pc := 4) K dX3_first_4 ?_
    refine v_getR (pc := 5) K fl_RX3_25 dX3_first_5 (Nat.le_of_ble_eq_true rfl) rfl rfl ?_
    obtain ⟨v5, h6, h⟩ := bd h
    refine v_cV0U (pc := 8)  K ca_yX0_restart ml_RX3_271 (Nat.le_of_ble_eq_true rfl) rfl rfl (t_X0_restart _ K.nt K.ad s2 v5 h6) (Nat.le_of_ble_eq_true rfl) (by decide) (by decide) dX3_first_8 ?_
    refine v_aload0 (pc := 11) K dX3_first_11 ?_
    refine v_iload1 (pc := 12) K dX3_first_12 ?_
    refine v_ic1 (pc := 13) K dX3_first_13 ?_
    obtain ⟨v7, h8, h⟩ := bd h
    refine v_cV2U (pc := 14)  K ca_yX3_pickRows ml_RX3_272 (Nat.le_of_ble_eq_true rfl) rfl rfl (t_X3_pickRows _ K.nt K.ad v5 a0 (1 : Int32) v7 h8) (Nat.le_of_ble_eq_true rfl) (by decide) (by decide) dX3_first_14 ?_
    refine v_aload0 (pc := 17) K dX3_first_17 ?_
    refine v_iload1 (pc := 18) K dX3_first_18 ?_
    refine v_ic0 (pc := 19) K dX3_first_19 ?_
    obtain ⟨v9, h10, h⟩ := bd h
    refine v_cV2U (pc := 20)  K ca_yX3_pickRows ml_RX3_272 (Nat.le_of_ble_eq_true rfl) rfl rfl (t_X3_pickRows _ K.nt K.ad v7 a0 (0 : Int32) v9 h10) (Nat.le_of_ble_eq_true rfl) (by decide) (by decide) dX3_first_20 ?_
    refine v_aload0 (pc := 23) K dX3_first_23 ?_
    obtain ⟨v11, h12, h⟩ := bd h
    refine v_cV0I (pc := 24)  K ca_yX3_arrange ml_RX3_276 (Nat.le_of_ble_eq_true rfl) rfl rfl (t_X3_arrange _ K.nt K.ad v9 v11 h12) (Nat.le_of_ble_eq_true rfl) (by decide) (by decide) dX3_first_24 ?_
    cases h
    exact v_iret (pc := 27) K dX3_first_27 rfl rfl
  · cases hF
    exact v_cS1X (pc := 1)  K ca_yX3_needMask ml_RX3_125 (t_X3_needMask _ K.nt K.ad σ a0 (.error e4) _ h3) (Nat.le_of_ble_eq_true rfl) (by decide) (by decide) dX3_first_1 hN rfl rfl
set_option maxRecDepth 100000 in
def c_X3_sort (σ : St) (a0 : Int32) (a1 : Int32) : Option (Except String Int32 × St) :=
  (xB (c_X3_needColumn σ a0) fun _ s2 => ((c_X0_restart s2).bind fun v5 => ((lp 5000 (fun (s7 : Int32 × St) => (if s7.2.1 1 0 ≤ s7.1 then some (.inr s7.2) else ((ix a0 6).bind fun j15 => ((ix s7.1 192).bind fun j17 => ((if s7.2.2 (4 + j15) j17 = ((-9223372036854775808) : Int64) then some s7.2 else ((ix a0 6).bind fun j23 => ((ix s7.1 192).bind fun j25 => ((c_X0_take s7.2 s7.1 (s7.2.2 (4 + j23) j25)).bind fun v27 => some v27)))).bind fun (t19 : St) => some (.inl ((s7.1 + 1), t19))))))) ((0 : Int32), v5)).bind fun (r8 : St) => ((c_X0_putInOrder r8 a1).bind fun v29 => ((lp 5000 (fun (s31 : Int32 × St) => (if s31.2.1 1 0 ≤ s31.1 then some (.inr s31.2) else ((ix a0 6).bind fun j39 => ((ix s31.1 192).bind fun j41 => ((if s31.2.2 (4 + j39) j41 = ((-9223372036854775808) : Int64) then ((c_X0_take s31.2 s31.1 ((-9223372036854775808) : Int64)).bind fun v47 => some v47) else some s31.2).bind fun (t43 : St) => some (.inl ((s31.1 + 1), t43))))))) ((0 : Int32), v29.2)).bind fun (r32 : St) => ((c_X3_arrange r32).bind fun v49 => some (.ok v49.1, v49.2)))))))
set_option maxHeartbeats 4000000 in
set_option maxRecDepth 100000 in
theorem t_X3_sort (l : Launch) (hnt : l.stackTraces = false) {E : Ev} {base : Nat} (hE : Adr YC E base) (σ : St) (a0 : Int32) (a1 : Int32) (r : Except String Int32) (σ' : St) (h : c_X3_sort σ a0 a1 = some (r, σ')) : Ctr l yX3_sort cX3_sort 4 (some .int) 7 121 YC E base [.ref (E.2.2 0), .int a0, .int a1] σ (rI r) σ' := by
  unfold c_X3_sort at h
  refine ofV 1 (by decide +kernel) rfl hE hnt (Nat.le_of_ble_eq_true rfl) rfl (fun M hN K => ?_)
  refine v_aload0 (pc := 0) K dX3_sort_0 ?_
  refine v_iload1 (pc := 1) K dX3_sort_1 ?_
  rcases xb h with ⟨v1, s2, h3, h⟩ | ⟨e4, s2, h3, hF⟩
  · refine v_cV1U (pc := 2) K ca_yX3_needColumn ml_RX3_66 (Nat.le_of_ble_eq_true rfl) rfl rfl (t_X3_needColumn _ K.nt K.ad σ a0 (.ok v1) s2 h3) (Nat.le_of_ble_eq_true rfl) (by decide) (by decide) dX3_sort_2 ?_
    refine v_aload0 (pc := 5) K dX3_sort_5 ?_
    refine v_getR (pc := 6) K fl_RX3_25 dX3_sort_6 (Nat.le_of_ble_eq_true rfl) rfl rfl ?_
    obtain ⟨v5, h6, h⟩ := bd h
    refine v_cV0U (pc := 9)  K ca_yX0_restart ml_RX3_271 (Nat.le_of_ble_eq_true rfl) rfl rfl (t_X0_restart _ K.nt K.ad s2 v5 h6) (Nat.le_of_ble_eq_true rfl) (by decide) (by decide) dX3_sort_9 ?_
    refine v_ic0 (pc := 12) K dX3_sort_12 ?_
    refine v_istore3 (pc := 13) K dX3_sort_13 rfl (Nat.le_of_ble_eq_true rfl) ?_
    obtain ⟨r8, h10, h⟩ := bd h
    have hJ9 : V (mkX M YC E base 4 (rI r) σ') r8 68 [some (.ref (E.2.2 0)), some (.int a0), some (.int a1), none] [] := by
      refine v_aload0 (pc := 68) K dX3_sort_68 ?_
      refine v_getR (pc := 69) K fl_RX3_25 dX3_sort_69 (Nat.le_of_ble_eq_true rfl) rfl rfl ?_
      refine v_iload2 (pc := 72) K dX3_sort_72 ?_
      obtain ⟨v29, h30, h⟩ := bd h
      refine v_cV1I (pc := 73)  K ca_yX0_putInOrder ml_RX3_169 (Nat.le_of_ble_eq_true rfl) rfl rfl (t_X0_putInOrder _ K.nt K.ad r8 a1 v29 h30) (Nat.le_of_ble_eq_true rfl) (by decide) (by decide) dX3_sort_73 ?_
      refine v_popI (pc := 76) K dX3_sort_76 ?_
      refine v_ic0 (pc := 77) K dX3_sort_77 ?_
      refine v_istore3 (pc := 78) K dX3_sort_78 rfl (Nat.le_of_ble_eq_true rfl) ?_
      obtain ⟨r32, h34, h⟩ := bd h
      have hJ33 : V (mkX M YC E base 4 (rI r) σ') r32 125 [some (.ref (E.2.2 0)), none, none, none] [] := by
        refine v_aload0 (pc := 125) K dX3_sort_125 ?_
        obtain ⟨v49, h50, h⟩ := bd h
        refine v_cV0I (pc := 126)  K ca_yX3_arrange ml_RX3_276 (Nat.le_of_ble_eq_true rfl) rfl rfl (t_X3_arrange _ K.nt K.ad r32 v49 h50) (Nat.le_of_ble_eq_true rfl) (by decide) (by decide) dX3_sort_126 ?_
        cases h
        exact v_iret (pc := 129) K dX3_sort_129 rfl rfl
      clear h
      refine v_fg [true, true, false, true] ?_
      have hL51 := lpv h34 (fun s31 : Int32 × St => V (mkX M YC E base 4 (rI r) σ') s31.2 79 [some (.ref (E.2.2 0)), some (.int a0), none, some (.int s31.1)] [])
      refine hL51 (fun s31 o h hk => ?_)
      refine v_iload3 (pc := 79) K dX3_sort_79 ?_
      refine v_aload0 (pc := 80) K dX3_sort_80 ?_
      refine v_getR (pc := 81) K fl_RX3_14 dX3_sort_81 (Nat.le_of_ble_eq_true rfl) rfl rfl ?_
      refine v_getI (pc := 84) K fl_RX3_76 dX3_sort_84 (Nat.le_of_ble_eq_true rfl) rfl rfl ?_
      refine v_icmp_ge (pc := 87) (tgt := 125) K dX3_sort_87 (by decide) (fun c38 => ?_) (fun c38 => ?_)
      · have h := it c38 h
        have e := lx h hk
        cases e
        exact v_fg [true, false, true, false] hJ33
      · have h := ie c38 h
        refine v_aload0 (pc := 90) K dX3_sort_90 ?_
        refine v_getR (pc := 91) K fl_RX3_14 dX3_sort_91 (Nat.le_of_ble_eq_true rfl) rfl rfl ?_
        refine v_getR (pc := 94) K fl_RX3_86 dX3_sort_94 (Nat.le_of_ble_eq_true rfl) rfl rfl ?_
        refine v_iload1 (pc := 97) K dX3_sort_97 ?_
        obtain ⟨j39, h40, h⟩ := bd h
        refine v_aal (pc := 98) (b := 4) K dX3_sort_98 (Nat.le_of_ble_eq_true rfl) rfl rfl h40 ?_
        refine v_iload3 (pc := 99) K dX3_sort_99 ?_
        obtain ⟨j41, h42, h⟩ := bd h
        refine v_laload (pc := 100) K dX3_sort_100 (rowC' (ix_lt h40)) (rowC (ix_lt h40)) h42 ?_
        refine v_ldc2 (pc := 101) K dX3_sort_101 cl_RX3_90 ?_
        obtain ⟨t43, h45, h⟩ := bd h
        have hJ44 : V (mkX M YC E base 4 (rI r) σ') t43 119 [some (.ref (E.2.2 0)), some (.int a0), none, some (.int s31.1)] [] := by
          refine v_iinc3 (pc := 119) (w := 1) K dX3_sort_119 rfl (Nat.le_of_ble_eq_true rfl) (by decide) ?_
          refine v_goto (pc := 122) (tgt := 79) K dX3_sort_122 (by decide) ?_
          have e := lfc h hk
          exact e
        clear h
        have h := h45
        refine v_lc_ne (pc := 104) (tgt := 119) K dX3_sort_104 dX3_sort_105 (by decide) (fun c46 => ?_) (fun c46 => ?_)
        · have h := ie c46 h
          cases h
          exact hJ44
        · have h := it c46 h
          refine v_aload0 (pc := 108) K dX3_sort_108 ?_
          refine v_getR (pc := 109) K fl_RX3_25 dX3_sort_109 (Nat.le_of_ble_eq_true rfl) rfl rfl ?_
          refine v_iload3 (pc := 112) K dX3_sort_112 ?_
          refine v_ldc2 (pc := 113) K dX3_sort_113 cl_RX3_90 ?_
          obtain ⟨v47, h48, h⟩ := bd h
          refine v_cV2U (pc := 116)  K ca_yX0_take ml_RX3_279 (Nat.le_of_ble_eq_true rfl) rfl rfl (t_X0_take _ K.nt K.ad s31.2 s31.1 ((-9223372036854775808) : Int64) v47 h48) (Nat.le_of_ble_eq_true rfl) (by decide) (by decide) dX3_sort_116 ?_
          cases h
          exact hJ44
    clear h
    have hL52 := lpv h10 (fun s7 : Int32 × St => V (mkX M YC E base 4 (rI r) σ') s7.2 14 [some (.ref (E.2.2 0)), some (.int a0), some (.int a1), some (.int s7.1)] [])
    refine hL52 (fun s7 o h hk => ?_)
    refine v_iload3 (pc := 14) K dX3_sort_14 ?_
    refine v_aload0 (pc := 15) K dX3_sort_15 ?_
    refine v_getR (pc := 16) K fl_RX3_14 dX3_sort_16 (Nat.le_of_ble_eq_true rfl) rfl rfl ?_
    refine v_getI (pc := 19) K fl_RX3_76 dX3_sort_19 (Nat.le_of_ble_eq_true rfl) rfl rfl ?_
    refine v_icmp_ge (pc := 22) (tgt := 68) K dX3_sort_22 (by decide) (fun c14 => ?_) (fun c14 => ?_)
    · have h := it c14 h
      have e := lx h hk
      cases e
      exact v_fg [true, true, true, false] hJ9
    · have h := ie c14 h
      refine v_aload0 (pc := 25) K dX3_sort_25 ?_
      refine v_getR (pc := 26) K fl_RX3_14 dX3_sort_26 (Nat.le_of_ble_eq_true rfl) rfl rfl ?_
      refine v_getR (pc := 29) K fl_RX3_86 dX3_sort_29 (Nat.le_of_ble_eq_true rfl) rfl rfl ?_
      refine v_iload1 (pc := 32) K dX3_sort_32 ?_
      obtain ⟨j15, h16, h⟩ := bd h
      refine v_aal (pc := 33) (b := 4) K dX3_sort_33 (Nat.le_of_ble_eq_true rfl) rfl rfl h16 ?_
      refine v_iload3 (pc := 34) K dX3_sort_34 ?_
      obtain ⟨j17, h18, h⟩ := bd h
      refine v_laload (pc := 35) K dX3_sort_35 (rowC' (ix_lt h16)) (rowC (ix_lt h16)) h18 ?_
      refine v_ldc2 (pc := 36) K dX3_sort_36 cl_RX3_90 ?_
      obtain ⟨t19, h21, h⟩ := bd h
      have hJ20 : V (mkX M YC E base 4 (rI r) σ') t19 62 [some (.ref (E.2.2 0)), some (.int a0), some (.int a1), some (.int s7.1)] [] := by
        refine v_iinc3 (pc := 62) (w := 1) K dX3_sort_62 rfl (Nat.le_of_ble_eq_true rfl) (by decide) ?_
        refine v_goto (pc := 65) (tgt := 14) K dX3_sort_65 (by decide) ?_
        have e := lfc h hk
        exact e
      clear h
      have h := h21
      refine v_lc_eq (pc := 39) (tgt := 62) K dX3_sort_39 dX3_sort_40 (by decide) (fun c22 => ?_) (fun c22 => ?_)
      · have h := it c22 h
        cases h
        exact hJ20
      · have h := ie c22 h
        refine v_aload0 (pc := 43) K dX3_sort_43 ?_
        refine v_getR (pc := 44) K fl_RX3_25 dX3_sort_44 (Nat.le_of_ble_eq_true rfl) rfl rfl ?_
        refine v_iload3 (pc := 47) K dX3_sort_47 ?_
        refine v_aload0 (pc := 48) K dX3_sort_48 ?_
        refine v_getR (pc := 49) K fl_RX3_14 dX3_sort_49 (Nat.le_of_ble_eq_true rfl) rfl rfl ?_
        refine v_getR (pc := 52) K fl_RX3_86 dX3_sort_52 (Nat.le_of_ble_eq_true rfl) rfl rfl ?_
        refine v_iload1 (pc := 55) K dX3_sort_55 ?_
        obtain ⟨j23, h24, h⟩ := bd h
        refine v_aal (pc := 56) (b := 4) K dX3_sort_56 (Nat.le_of_ble_eq_true rfl) rfl rfl h24 ?_
        refine v_iload3 (pc := 57) K dX3_sort_57 ?_
        obtain ⟨j25, h26, h⟩ := bd h
        refine v_laload (pc := 58) K dX3_sort_58 (rowC' (ix_lt h24)) (rowC (ix_lt h24)) h26 ?_
        obtain ⟨v27, h28, h⟩ := bd h
        refine v_cV2U (pc := 59)  K ca_yX0_take ml_RX3_279 (Nat.le_of_ble_eq_true rfl) rfl rfl (t_X0_take _ K.nt K.ad s7.2 s7.1 (s7.2.2 (4 + j23) j25) v27 h28) (Nat.le_of_ble_eq_true rfl) (by decide) (by decide) dX3_sort_59 ?_
        cases h
        exact hJ20
  · cases hF
    exact v_cV1X (pc := 2)  K ca_yX3_needColumn ml_RX3_66 (Nat.le_of_ble_eq_true rfl) rfl rfl (t_X3_needColumn _ K.nt K.ad σ a0 (.error e4) _ h3) (Nat.le_of_ble_eq_true rfl) (by decide) (by decide) dX3_sort_2 hN rfl rfl
set_option maxRecDepth 100000 in
def c_X3_swap (σ : St) (a0 : Int32) (a1 : Int32) : Option (Except String Int32 × St) :=
  (xB (c_X3_needColumn σ a0) fun _ s2 => (xB (c_X3_needColumn s2 a1) fun _ s6 => ((c_X1_exchangeColumns s6 a0 a1).bind fun v9 => ((ix a0 6).bind fun j11 => some (.ok (v9.1 2 j11), v9)))))
set_option maxHeartbeats 4000000 in
set_option maxRecDepth 100000 in
theorem t_X3_swap (l : Launch) (hnt : l.stackTraces = false) {E : Ev} {base : Nat} (hE : Adr YC E base) (σ : St) (a0 : Int32) (a1 : Int32) (r : Except String Int32) (σ' : St) (h : c_X3_swap σ a0 a1 = some (r, σ')) : Ctr l yX3_swap cX3_swap 3 (some .int) 7 121 YC E base [.ref (E.2.2 0), .int a0, .int a1] σ (rI r) σ' := by
  unfold c_X3_swap at h
  refine ofV 0 (by decide +kernel) rfl hE hnt (Nat.le_of_ble_eq_true rfl) rfl (fun M hN K => ?_)
  refine v_aload0 (pc := 0) K dX3_swap_0 ?_
  refine v_iload1 (pc := 1) K dX3_swap_1 ?_
  rcases xb h with ⟨v1, s2, h3, h⟩ | ⟨e4, s2, h3, hF⟩
  · refine v_cV1U (pc := 2) K ca_yX3_needColumn ml_RX3_66 (Nat.le_of_ble_eq_true rfl) rfl rfl (t_X3_needColumn _ K.nt K.ad σ a0 (.ok v1) s2 h3) (Nat.le_of_ble_eq_true rfl) (by decide) (by decide) dX3_swap_2 ?_
    refine v_aload0 (pc := 5) K dX3_swap_5 ?_
    refine v_iload2 (pc := 6) K dX3_swap_6 ?_
    rcases xb h with ⟨v5, s6, h7, h⟩ | ⟨e8, s6, h7, hF⟩
    · refine v_cV1U (pc := 7) K ca_yX3_needColumn ml_RX3_66 (Nat.le_of_ble_eq_true rfl) rfl rfl (t_X3_needColumn _ K.nt K.ad s2 a1 (.ok v5) s6 h7) (Nat.le_of_ble_eq_true rfl) (by decide) (by decide) dX3_swap_7 ?_
      refine v_aload0 (pc := 10) K dX3_swap_10 ?_
      refine v_getR (pc := 11) K fl_RX3_14 dX3_swap_11 (Nat.le_of_ble_eq_true rfl) rfl rfl ?_
      refine v_iload1 (pc := 14) K dX3_swap_14 ?_
      refine v_iload2 (pc := 15) K dX3_swap_15 ?_
      obtain ⟨v9, h10, h⟩ := bd h
      refine v_cV2U (pc := 16)  K ca_yX1_exchangeColumns ml_RX3_69 (Nat.le_of_ble_eq_true rfl) rfl rfl (t_X1_exchangeColumns _ K.nt K.ad s6 a0 a1 v9 h10) (Nat.le_of_ble_eq_true rfl) (by decide) (by decide) dX3_swap_16 ?_
      refine v_aload0 (pc := 19) K dX3_swap_19 ?_
      refine v_getR (pc := 20) K fl_RX3_14 dX3_swap_20 (Nat.le_of_ble_eq_true rfl) rfl rfl ?_
      refine v_getR (pc := 23) K fl_RX3_58 dX3_swap_23 (Nat.le_of_ble_eq_true rfl) rfl rfl ?_
      refine v_iload1 (pc := 26) K dX3_swap_26 ?_
      obtain ⟨j11, h12, h⟩ := bd h
      refine v_iaload (pc := 27) K dX3_swap_27 (Nat.le_of_ble_eq_true rfl) rfl h12 ?_
      cases h
      exact v_iret (pc := 28) K dX3_swap_28 rfl rfl
    · cases hF
      exact v_cV1X (pc := 7)  K ca_yX3_needColumn ml_RX3_66 (Nat.le_of_ble_eq_true rfl) rfl rfl (t_X3_needColumn _ K.nt K.ad s2 a1 (.error e8) _ h7) (Nat.le_of_ble_eq_true rfl) (by decide) (by decide) dX3_swap_7 hN rfl rfl
  · cases hF
    exact v_cV1X (pc := 2)  K ca_yX3_needColumn ml_RX3_66 (Nat.le_of_ble_eq_true rfl) rfl rfl (t_X3_needColumn _ K.nt K.ad σ a0 (.error e4) _ h3) (Nat.le_of_ble_eq_true rfl) (by decide) (by decide) dX3_swap_2 hN rfl rfl
set_option maxRecDepth 100000 in
def c_X3_needImage (σ : St) (a0 : Int32) : Option (Except String Unit × St) :=
  (if a0 < 0 then some (.error "java/lang/IndexOutOfBoundsException", σ) else (if a0 < (2 : Int32) then some (.ok (), σ) else some (.error "java/lang/IndexOutOfBoundsException", σ)))
set_option maxHeartbeats 4000000 in
set_option maxRecDepth 100000 in
theorem t_X3_needImage (l : Launch) (hnt : l.stackTraces = false) {E : Ev} {base : Nat} (hE : Adr YC E base) (σ : St) (a0 : Int32) (r : Except String Unit) (σ' : St) (h : c_X3_needImage σ a0 = some (r, σ')) : Ctr l yX3_needImage cX3_needImage 1 none 6 100 YC E base [.int a0] σ (rU r) σ' := by
  unfold c_X3_needImage at h
  refine ofV 0 (by decide +kernel) rfl hE hnt (Nat.le_of_ble_eq_true rfl) rfl (fun M hN K => ?_)
  refine v_iload0 (pc := 0) K dX3_needImage_0 ?_
  refine v_if_lt (pc := 1) (tgt := 9) K dX3_needImage_1 (by decide) (fun c1 => ?_) (fun c1 => ?_)
  · have h := it c1 h
    cases h
    exact v_throw (pc := 9) (text := "no such image") K hN tw_IndexOutOfBoundsException (by decide +kernel) dX3_needImage_9 dX3_needImage_12 dX3_needImage_13 dX3_needImage_16 dX3_needImage_19 (by decide) (by decide) rfl rfl
  · have h := ie c1 h
    refine v_iload0 (pc := 4) K dX3_needImage_4 ?_
    refine v_ic2 (pc := 5) K dX3_needImage_5 ?_
    refine v_icmp_lt (pc := 6) (tgt := 20) K dX3_needImage_6 (by decide) (fun c2 => ?_) (fun c2 => ?_)
    · have h := it c2 h
      cases h
      exact v_vret (pc := 20) K dX3_needImage_20 rfl rfl
    · have h := ie c2 h
      cases h
      exact v_throw (pc := 9) (text := "no such image") K hN tw_IndexOutOfBoundsException (by decide +kernel) dX3_needImage_9 dX3_needImage_12 dX3_needImage_13 dX3_needImage_16 dX3_needImage_19 (by decide) (by decide) rfl rfl
