set_option maxRecDepth 100000 in
def m_X4_shift (σ : St) (a0 : Int32) (a1 : Int32) (a2 : Int32) : Option (Int32 × St) :=
  ((m_X4_areIn (sI σ 0 0 (0 : Int32)) a0 a2).bind fun v1 => (if v1 = 0 then ((m_X4_fails (sI σ 0 0 (0 : Int32)) (1 : Int32)).bind fun v43 => some (v43.1, v43.2)) else (if a1 = 0 then ((m_X4_fails (sI σ 0 0 (0 : Int32)) (2 : Int32)).bind fun v5 => some (v5.1, v5.2)) else ((m_X4_isIn (sI σ 0 0 (0 : Int32)) ((a1).toInt64) ((-62) : Int64) (62 : Int64)).bind fun v7 => (if v7 = 0 then ((m_X4_fails (sI σ 0 0 (0 : Int32)) (2 : Int32)).bind fun v41 => some (v41.1, v41.2)) else ((m_X4_begins (sI σ 0 0 (0 : Int32))).bind fun v10 => ((lp 5000 (fun (s12 : Int32 × St) => (if s12.2.1 0 5 ≤ s12.1 then some (.inr s12.2) else ((m_X4_hasUnder s12.2 a0 s12.1 a2).bind fun v20 => ((if v20 = 0 then some s12.2 else ((m_X4_at s12.2 a0 s12.1).bind fun v26 => ((ix v26 1152).bind fun j28 => (if 0 ≤ a1 then ((m_X4_amountOf s12.2 (s12.2.2 1 j28)).bind fun v31 => (if v31 ≤ ((4611686018427387904 : Int64) >>> ((a1).toInt64 &&& 63)) then ((m_X4_lays s12.2 a0 s12.1 (s12.2.2 1 j28 <<< ((a1).toInt64 &&& 63))).bind fun v34 => some v34) else some (sI s12.2 0 14 (1 : Int32)))) else ((m_X4_lays s12.2 a0 s12.1 (s12.2.2 1 j28 >>> (((-a1)).toInt64 &&& 63))).bind fun v36 => some v36))))).bind fun (t22 : St) => some (.inl ((s12.1 + 1), t22)))))) ((0 : Int32), v10)).bind fun (r13 : St) => ((m_X4_done r13 a0 (3 : Int32)).bind fun v38 => some (v38.1, v38.2)))))))))
set_option maxHeartbeats 4000000 in
set_option maxRecDepth 100000 in
theorem t_X4_shift (l : Launch) (hnt : l.stackTraces = false) {E : Ev} {base : Nat} (hE : Adr YM E base) (σ : St) (a0 : Int32) (a1 : Int32) (a2 : Int32) (r : Int32 × St) (h : m_X4_shift σ a0 a1 a2 = some r) : Ctr l yX4_shift cX4_shift 7 (some .int) 3 72 YM E base [.ref (E.2.2 0), .int a0, .int a1, .int a2] σ (.ok (some (.int r.1))) r.2 := by
  unfold m_X4_shift at h
  refine ofV 3 (by decide +kernel) rfl hE hnt (Nat.le_of_ble_eq_true rfl) rfl (fun M hN K => ?_)
  refine v_aload0 (pc := 0) K dX4_shift_0 ?_
  refine v_ic0 (pc := 1) K dX4_shift_1 ?_
  refine v_put (pc := 2) K fw_RX4_69 dX4_shift_2 rfl rfl (Nat.le_of_ble_eq_true rfl) rfl rfl ?_
  refine v_aload0 (pc := 5) K dX4_shift_5 ?_
  refine v_iload1 (pc := 6) K dX4_shift_6 ?_
  refine v_iload3 (pc := 7) K dX4_shift_7 ?_
  obtain ⟨v1, h2, h⟩ := bd h
  refine v_cV2I (pc := 8)  K ca_yX4_areIn ml_RX4_164 (Nat.le_of_ble_eq_true rfl) rfl rfl (t_X4_areIn _ K.nt K.ad (sI σ 0 0 (0 : Int32)) a0 a2 v1 h2) (Nat.le_of_ble_eq_true rfl) (by decide) (by decide) dX4_shift_8 ?_
  refine v_if_ne (pc := 11) (tgt := 20) K dX4_shift_11 (by decide) (fun c3 => ?_) (fun c3 => ?_)
  · have h := ie c3 h
    refine v_iload2 (pc := 20) K dX4_shift_20 ?_
    refine v_if_eq (pc := 21) (tgt := 38) K dX4_shift_21 (by decide) (fun c4 => ?_) (fun c4 => ?_)
    · have h := it c4 h
      refine v_aload0 (pc := 38) K dX4_shift_38 ?_
      refine v_ic2 (pc := 39) K dX4_shift_39 ?_
      obtain ⟨v5, h6, h⟩ := bd h
      refine v_cV1I (pc := 40)  K ca_yX4_fails ml_RX4_105 (Nat.le_of_ble_eq_true rfl) rfl rfl (t_X4_fails _ K.nt K.ad (sI σ 0 0 (0 : Int32)) (2 : Int32) v5 h6) (Nat.le_of_ble_eq_true rfl) (by decide) (by decide) dX4_shift_40 ?_
      cases h
      exact v_iret (pc := 43) K dX4_shift_43 rfl rfl
    · have h := ie c4 h
      refine v_iload2 (pc := 24) K dX4_shift_24 ?_
      refine v_i2l (pc := 25) K dX4_shift_25 ?_
      refine v_ldc2 (pc := 26) K dX4_shift_26 cl_RX4_269 ?_
      refine v_ldc2 (pc := 29) K dX4_shift_29 cl_RX4_271 ?_
      obtain ⟨v7, h8, h⟩ := bd h
      refine v_cS3I (pc := 32)  K ca_yX4_isIn ml_RX4_76 (t_X4_isIn _ K.nt K.ad (sI σ 0 0 (0 : Int32)) ((a1).toInt64) ((-62) : Int64) (62 : Int64) v7 h8) (Nat.le_of_ble_eq_true rfl) (by decide) (by decide) dX4_shift_32 ?_
      refine v_if_ne (pc := 35) (tgt := 44) K dX4_shift_35 (by decide) (fun c9 => ?_) (fun c9 => ?_)
      · have h := ie c9 h
        refine v_aload0 (pc := 44) K dX4_shift_44 ?_
        obtain ⟨v10, h11, h⟩ := bd h
        refine v_cV0U (pc := 45)  K ca_yX4_begins ml_RX4_253 (Nat.le_of_ble_eq_true rfl) rfl rfl (t_X4_begins _ K.nt K.ad (sI σ 0 0 (0 : Int32)) v10 h11) (Nat.le_of_ble_eq_true rfl) (by decide) (by decide) dX4_shift_45 ?_
        refine v_ic0 (pc := 48) K dX4_shift_48 ?_
        refine v_istore4 (pc := 49) K dX4_shift_49 rfl (Nat.le_of_ble_eq_true rfl) ?_
        obtain ⟨r13, h15, h⟩ := bd h
        have hJ14 : V (mkX M YM E base 7 (.ok (some (.int r.1))) r.2) r13 145 [some (.ref (E.2.2 0)), some (.int a0), none, none, none, none, none] [] := by
          refine v_aload0 (pc := 145) K dX4_shift_145 ?_
          refine v_iload1 (pc := 146) K dX4_shift_146 ?_
          refine v_ic3 (pc := 147) K dX4_shift_147 ?_
          obtain ⟨v38, h39, h⟩ := bd h
          refine v_cV2I (pc := 148)  K ca_yX4_done ml_RX4_260 (Nat.le_of_ble_eq_true rfl) rfl rfl (t_X4_done _ K.nt K.ad r13 a0 (3 : Int32) v38 h39) (Nat.le_of_ble_eq_true rfl) (by decide) (by decide) dX4_shift_148 ?_
          cases h
          exact v_iret (pc := 151) K dX4_shift_151 rfl rfl
        clear h
        have hL40 := lpv h15 (fun s12 : Int32 × St => V (mkX M YM E base 7 (.ok (some (.int r.1))) r.2) s12.2 51 [some (.ref (E.2.2 0)), some (.int a0), some (.int a1), some (.int a2), some (.int s12.1), none, none] [])
        refine hL40 (fun s12 o h hk => ?_)
        refine v_iload4 (pc := 51) K dX4_shift_51 ?_
        refine v_aload0 (pc := 53) K dX4_shift_53 ?_
        refine v_getI (pc := 54) K fl_RX4_80 dX4_shift_54 (Nat.le_of_ble_eq_true rfl) rfl rfl ?_
        refine v_icmp_ge (pc := 57) (tgt := 145) K dX4_shift_57 (by decide) (fun c19 => ?_) (fun c19 => ?_)
        · have h := it c19 h
          have e := lx h hk
          cases e
          exact v_fg [true, true, false, false, false, true, true] hJ14
        · have h := ie c19 h
          refine v_aload0 (pc := 60) K dX4_shift_60 ?_
          refine v_iload1 (pc := 61) K dX4_shift_61 ?_
          refine v_iload4 (pc := 62) K dX4_shift_62 ?_
          refine v_iload3 (pc := 64) K dX4_shift_64 ?_
          obtain ⟨v20, h21, h⟩ := bd h
          refine v_cV3I (pc := 65)  K ca_yX4_hasUnder ml_RX4_170 (Nat.le_of_ble_eq_true rfl) rfl rfl (t_X4_hasUnder _ K.nt K.ad s12.2 a0 s12.1 a2 v20 h21) (Nat.le_of_ble_eq_true rfl) (by decide) (by decide) dX4_shift_65 ?_
          obtain ⟨t22, h24, h⟩ := bd h
          have hJ23 : V (mkX M YM E base 7 (.ok (some (.int r.1))) r.2) t22 139 [some (.ref (E.2.2 0)), some (.int a0), some (.int a1), some (.int a2), some (.int s12.1), none, none] [] := by
            refine v_iinc4 (pc := 139) (w := 1) K dX4_shift_139 rfl (Nat.le_of_ble_eq_true rfl) (by decide) ?_
            refine v_goto (pc := 142) (tgt := 51) K dX4_shift_142 (by decide) ?_
            have e := lfc h hk
            exact e
          clear h
          have h := h24
          refine v_if_ne (pc := 68) (tgt := 74) K dX4_shift_68 (by decide) (fun c25 => ?_) (fun c25 => ?_)
          · have h := ie c25 h
            refine v_aload0 (pc := 74) K dX4_shift_74 ?_
            refine v_getR (pc := 75) K fl_RX4_7 dX4_shift_75 (Nat.le_of_ble_eq_true rfl) rfl rfl ?_
            refine v_iload1 (pc := 78) K dX4_shift_78 ?_
            refine v_iload4 (pc := 79) K dX4_shift_79 ?_
            obtain ⟨v26, h27, h⟩ := bd h
            refine v_cS2I (pc := 81)  K ca_yX4_at ml_RX4_94 (t_X4_at _ K.nt K.ad s12.2 a0 s12.1 v26 h27) (Nat.le_of_ble_eq_true rfl) (by decide) (by decide) dX4_shift_81 ?_
            obtain ⟨j28, h29, h⟩ := bd h
            refine v_laload (pc := 84) K dX4_shift_84 (Nat.le_of_ble_eq_true rfl) rfl h29 ?_
            refine v_lstore5 (pc := 85) K dX4_shift_85 rfl (Nat.le_of_ble_eq_true rfl) ?_
            refine v_iload2 (pc := 87) K dX4_shift_87 ?_
            refine v_if_ge (pc := 88) (tgt := 106) K dX4_shift_88 (by decide) (fun c30 => ?_) (fun c30 => ?_)
            · have h := it c30 h
              refine v_lload5 (pc := 106) K dX4_shift_106 ?_
              obtain ⟨v31, h32, h⟩ := bd h
              refine v_cS1L (pc := 108)  K ca_yX4_amountOf ml_RX4_207 (t_X4_amountOf _ K.nt K.ad s12.2 (s12.2.2 1 j28) v31 h32) (Nat.le_of_ble_eq_true rfl) (by decide) (by decide) dX4_shift_108 ?_
              refine v_ldc2 (pc := 111) K dX4_shift_111 cl_RX4_267 ?_
              refine v_iload2 (pc := 114) K dX4_shift_114 ?_
              refine v_lshr (pc := 115) K dX4_shift_115 ?_
              refine v_lc_le (pc := 116) (tgt := 128) K dX4_shift_116 dX4_shift_117 (by decide) (fun c33 => ?_) (fun c33 => ?_)
              · have h := it c33 h
                refine v_aload0 (pc := 128) K dX4_shift_128 ?_
                refine v_iload1 (pc := 129) K dX4_shift_129 ?_
                refine v_iload4 (pc := 130) K dX4_shift_130 ?_
                refine v_lload5 (pc := 132) K dX4_shift_132 ?_
                refine v_iload2 (pc := 134) K dX4_shift_134 ?_
                refine v_lshl (pc := 135) K dX4_shift_135 ?_
                obtain ⟨v34, h35, h⟩ := bd h
                refine v_cV3U (pc := 136)  K ca_yX4_lays ml_RX4_256 (Nat.le_of_ble_eq_true rfl) rfl rfl (t_X4_lays _ K.nt K.ad s12.2 a0 s12.1 (s12.2.2 1 j28 <<< ((a1).toInt64 &&& 63)) v34 h35) (Nat.le_of_ble_eq_true rfl) (by decide) (by decide) dX4_shift_136 ?_
                cases h
                exact (v_fg [true, true, true, true, true, false, true] hJ23)
              · have h := ie c33 h
                refine v_aload0 (pc := 120) K dX4_shift_120 ?_
                refine v_ic1 (pc := 121) K dX4_shift_121 ?_
                refine v_put (pc := 122) K fw_RX4_249 dX4_shift_122 (by decide) (by decide) (Nat.le_of_ble_eq_true rfl) rfl rfl ?_
                refine v_goto (pc := 125) (tgt := 139) K dX4_shift_125 (by decide) ?_
                cases h
                exact (v_fg [true, true, true, true, true, false, true] hJ23)
            · have h := ie c30 h
              refine v_aload0 (pc := 91) K dX4_shift_91 ?_
              refine v_iload1 (pc := 92) K dX4_shift_92 ?_
              refine v_iload4 (pc := 93) K dX4_shift_93 ?_
              refine v_lload5 (pc := 95) K dX4_shift_95 ?_
              refine v_iload2 (pc := 97) K dX4_shift_97 ?_
              refine v_ineg (pc := 98) K dX4_shift_98 ?_
              refine v_lshr (pc := 99) K dX4_shift_99 ?_
              obtain ⟨v36, h37, h⟩ := bd h
              refine v_cV3U (pc := 100)  K ca_yX4_lays ml_RX4_256 (Nat.le_of_ble_eq_true rfl) rfl rfl (t_X4_lays _ K.nt K.ad s12.2 a0 s12.1 (s12.2.2 1 j28 >>> (((-a1)).toInt64 &&& 63)) v36 h37) (Nat.le_of_ble_eq_true rfl) (by decide) (by decide) dX4_shift_100 ?_
              refine v_goto (pc := 103) (tgt := 139) K dX4_shift_103 (by decide) ?_
              cases h
              exact (v_fg [true, true, true, true, true, false, true] hJ23)
          · have h := it c25 h
            refine v_goto (pc := 71) (tgt := 139) K dX4_shift_71 (by decide) ?_
            cases h
            exact hJ23
      · have h := it c9 h
        refine v_aload0 (pc := 38) K dX4_shift_38 ?_
        refine v_ic2 (pc := 39) K dX4_shift_39 ?_
        obtain ⟨v41, h42, h⟩ := bd h
        refine v_cV1I (pc := 40)  K ca_yX4_fails ml_RX4_105 (Nat.le_of_ble_eq_true rfl) rfl rfl (t_X4_fails _ K.nt K.ad (sI σ 0 0 (0 : Int32)) (2 : Int32) v41 h42) (Nat.le_of_ble_eq_true rfl) (by decide) (by decide) dX4_shift_40 ?_
        cases h
        exact v_iret (pc := 43) K dX4_shift_43 rfl rfl
  · have h := it c3 h
    refine v_aload0 (pc := 14) K dX4_shift_14 ?_
    refine v_ic1 (pc := 15) K dX4_shift_15 ?_
    obtain ⟨v43, h44, h⟩ := bd h
    refine v_cV1I (pc := 16)  K ca_yX4_fails ml_RX4_105 (Nat.le_of_ble_eq_true rfl) rfl rfl (t_X4_fails _ K.nt K.ad (sI σ 0 0 (0 : Int32)) (1 : Int32) v43 h44) (Nat.le_of_ble_eq_true rfl) (by decide) (by decide) dX4_shift_16 ?_
    cases h
    exact v_iret (pc := 19) K dX4_shift_19 rfl rfl
set_option maxRecDepth 100000 in
def m_X4_hold (σ : St) (a0 : Int32) (a1 : Int64) (a2 : Int64) (a3 : Int32) : Option (Int32 × St) :=
  ((m_X4_areIn (sI σ 0 0 (0 : Int32)) a0 a3).bind fun v1 => (if v1 = 0 then ((m_X4_fails (sI σ 0 0 (0 : Int32)) (1 : Int32)).bind fun v51 => some (v51.1, v51.2)) else (if a1 ≤ a2 then ((m_X4_fits (sI σ 0 0 (0 : Int32)) a0 a1).bind fun v5 => (if v5 = 0 then ((m_X4_tooGreat (sI σ 0 0 (0 : Int32)) (3 : Int32)).bind fun v8 => some (v8.1, v8.2)) else ((m_X4_fits (sI σ 0 0 (0 : Int32)) a0 a2).bind fun v10 => (if v10 = 0 then ((m_X4_tooGreat (sI σ 0 0 (0 : Int32)) (3 : Int32)).bind fun v47 => some (v47.1, v47.2)) else ((lp 5000 (fun (s13 : Int32 × Int32 × St) => (if s13.2.2.1 0 5 ≤ s13.2.1 then some (.inr (s13.1, s13.2.2)) else ((m_X4_hasUnder s13.2.2 a0 s13.2.1 a3).bind fun v21 => ((if v21 = 0 then some (s13.1, s13.2.2) else ((m_X4_at s13.2.2 a0 s13.2.1).bind fun v27 => ((ix v27 1152).bind fun j29 => ((m_X4_isIn s13.2.2 (s13.2.2.2 1 j29) a1 a2).bind fun v31 => (if v31 = 0 then ((m_X4_at s13.2.2 a0 s13.2.1).bind fun v34 => ((m_X4_at s13.2.2 a0 s13.2.1).bind fun v36 => ((ix v36 1152).bind fun j38 => ((if a1 ≤ s13.2.2.2 1 j38 then some a2 else some a1).bind fun (t40 : Int64) => ((ix v34 1152).bind fun j44 => some ((s13.1 + 1), (sL s13.2.2 1 j44 t40))))))) else some (s13.1, s13.2.2)))))).bind fun (t23 : Int32 × St) => some (.inl (t23.1, (s13.2.1 + 1), t23.2)))))) ((0 : Int32), (0 : Int32), (sI σ 0 0 (0 : Int32)))).bind fun (r14 : Int32 × St) => some (r14.1, r14.2)))))) else ((m_X4_fails (sI σ 0 0 (0 : Int32)) (2 : Int32)).bind fun v49 => some (v49.1, v49.2)))))
set_option maxHeartbeats 4000000 in
set_option maxRecDepth 100000 in
theorem t_X4_hold (l : Launch) (hnt : l.stackTraces = false) {E : Ev} {base : Nat} (hE : Adr YM E base) (σ : St) (a0 : Int32) (a1 : Int64) (a2 : Int64) (a3 : Int32) (r : Int32 × St) (h : m_X4_hold σ a0 a1 a2 a3 = some r) : Ctr l yX4_hold cX4_hold 9 (some .int) 3 68 YM E base [.ref (E.2.2 0), .int a0, .long a1, .long a2, .int a3] σ (.ok (some (.int r.1))) r.2 := by
  unfold m_X4_hold at h
  refine ofV 2 (by decide +kernel) rfl hE hnt (Nat.le_of_ble_eq_true rfl) rfl (fun M hN K => ?_)
  refine v_aload0 (pc := 0) K dX4_hold_0 ?_
  refine v_ic0 (pc := 1) K dX4_hold_1 ?_
  refine v_put (pc := 2) K fw_RX4_69 dX4_hold_2 rfl rfl (Nat.le_of_ble_eq_true rfl) rfl rfl ?_
  refine v_aload0 (pc := 5) K dX4_hold_5 ?_
  refine v_iload1 (pc := 6) K dX4_hold_6 ?_
  refine v_iload6 (pc := 7) K dX4_hold_7 ?_
  obtain ⟨v1, h2, h⟩ := bd h
  refine v_cV2I (pc := 9)  K ca_yX4_areIn ml_RX4_164 (Nat.le_of_ble_eq_true rfl) rfl rfl (t_X4_areIn _ K.nt K.ad (sI σ 0 0 (0 : Int32)) a0 a3 v1 h2) (Nat.le_of_ble_eq_true rfl) (by decide) (by decide) dX4_hold_9 ?_
  refine v_if_ne (pc := 12) (tgt := 21) K dX4_hold_12 (by decide) (fun c3 => ?_) (fun c3 => ?_)
  · have h := ie c3 h
    refine v_lload2 (pc := 21) K dX4_hold_21 ?_
    refine v_lload4 (pc := 22) K dX4_hold_22 ?_
    refine v_lc_le (pc := 24) (tgt := 34) K dX4_hold_24 dX4_hold_25 (by decide) (fun c4 => ?_) (fun c4 => ?_)
    · have h := it c4 h
      refine v_aload0 (pc := 34) K dX4_hold_34 ?_
      refine v_iload1 (pc := 35) K dX4_hold_35 ?_
      refine v_lload2 (pc := 36) K dX4_hold_36 ?_
      obtain ⟨v5, h6, h⟩ := bd h
      refine v_cV2I (pc := 37)  K ca_yX4_fits ml_RX4_116 (Nat.le_of_ble_eq_true rfl) rfl rfl (t_X4_fits _ K.nt K.ad (sI σ 0 0 (0 : Int32)) a0 a1 v5 h6) (Nat.le_of_ble_eq_true rfl) (by decide) (by decide) dX4_hold_37 ?_
      refine v_if_eq (pc := 40) (tgt := 53) K dX4_hold_40 (by decide) (fun c7 => ?_) (fun c7 => ?_)
      · have h := it c7 h
        refine v_aload0 (pc := 53) K dX4_hold_53 ?_
        refine v_ic3 (pc := 54) K dX4_hold_54 ?_
        obtain ⟨v8, h9, h⟩ := bd h
        refine v_cV1I (pc := 55)  K ca_yX4_tooGreat ml_RX4_120 (Nat.le_of_ble_eq_true rfl) rfl rfl (t_X4_tooGreat _ K.nt K.ad (sI σ 0 0 (0 : Int32)) (3 : Int32) v8 h9) (Nat.le_of_ble_eq_true rfl) (by decide) (by decide) dX4_hold_55 ?_
        cases h
        exact v_iret (pc := 58) K dX4_hold_58 rfl rfl
      · have h := ie c7 h
        refine v_aload0 (pc := 43) K dX4_hold_43 ?_
        refine v_iload1 (pc := 44) K dX4_hold_44 ?_
        refine v_lload4 (pc := 45) K dX4_hold_45 ?_
        obtain ⟨v10, h11, h⟩ := bd h
        refine v_cV2I (pc := 47)  K ca_yX4_fits ml_RX4_116 (Nat.le_of_ble_eq_true rfl) rfl rfl (t_X4_fits _ K.nt K.ad (sI σ 0 0 (0 : Int32)) a0 a2 v10 h11) (Nat.le_of_ble_eq_true rfl) (by decide) (by decide) dX4_hold_47 ?_
        refine v_if_ne (pc := 50) (tgt := 59) K dX4_hold_50 (by decide) (fun c12 => ?_) (fun c12 => ?_)
        · have h := ie c12 h
          refine v_ic0 (pc := 59) K dX4_hold_59 ?_
          refine v_istore7 (pc := 60) K dX4_hold_60 rfl (Nat.le_of_ble_eq_true rfl) ?_
          refine v_ic0 (pc := 62) K dX4_hold_62 ?_
          refine v_istore8 (pc := 63) K dX4_hold_63 rfl (Nat.le_of_ble_eq_true rfl) ?_
          obtain ⟨r14, h16, h⟩ := bd h
          have hJ15 : V (mkX M YM E base 9 (.ok (some (.int r.1))) r.2) r14.2 151 [none, none, none, none, none, none, none, some (.int r14.1), none] [] := by
            refine v_iload7 (pc := 151) K dX4_hold_151 ?_
            cases h
            exact v_iret (pc := 153) K dX4_hold_153 rfl rfl
          clear h
          have hL46 := lpv h16 (fun s13 : Int32 × Int32 × St => V (mkX M YM E base 9 (.ok (some (.int r.1))) r.2) s13.2.2 65 [some (.ref (E.2.2 0)), some (.int a0), some (.long a1), none, some (.long a2), none, some (.int a3), some (.int s13.1), some (.int s13.2.1)] [])
          refine hL46 (fun s13 o h hk => ?_)
          refine v_iload8 (pc := 65) K dX4_hold_65 ?_
          refine v_aload0 (pc := 67) K dX4_hold_67 ?_
          refine v_getI (pc := 68) K fl_RX4_80 dX4_hold_68 (Nat.le_of_ble_eq_true rfl) rfl rfl ?_
          refine v_icmp_ge (pc := 71) (tgt := 151) K dX4_hold_71 (by decide) (fun c20 => ?_) (fun c20 => ?_)
          · have h := it c20 h
            have e := lx h hk
            cases e
            exact v_fg [false, false, false, true, false, true, false, true, false] hJ15
          · have h := ie c20 h
            refine v_aload0 (pc := 74) K dX4_hold_74 ?_
            refine v_iload1 (pc := 75) K dX4_hold_75 ?_
            refine v_iload8 (pc := 76) K dX4_hold_76 ?_
            refine v_iload6 (pc := 78) K dX4_hold_78 ?_
            obtain ⟨v21, h22, h⟩ := bd h
            refine v_cV3I (pc := 80)  K ca_yX4_hasUnder ml_RX4_170 (Nat.le_of_ble_eq_true rfl) rfl rfl (t_X4_hasUnder _ K.nt K.ad s13.2.2 a0 s13.2.1 a3 v21 h22) (Nat.le_of_ble_eq_true rfl) (by decide) (by decide) dX4_hold_80 ?_
            obtain ⟨t23, h25, h⟩ := bd h
            have hJ24 : V (mkX M YM E base 9 (.ok (some (.int r.1))) r.2) t23.2 145 [some (.ref (E.2.2 0)), some (.int a0), some (.long a1), none, some (.long a2), none, some (.int a3), some (.int t23.1), some (.int s13.2.1)] [] := by
              refine v_iinc8 (pc := 145) (w := 1) K dX4_hold_145 rfl (Nat.le_of_ble_eq_true rfl) (by decide) ?_
              refine v_goto (pc := 148) (tgt := 65) K dX4_hold_148 (by decide) ?_
              have e := lfc h hk
              exact e
            clear h
            have h := h25
            refine v_if_eq (pc := 83) (tgt := 145) K dX4_hold_83 (by decide) (fun c26 => ?_) (fun c26 => ?_)
            · have h := it c26 h
              cases h
              exact hJ24
            · have h := ie c26 h
              refine v_aload0 (pc := 86) K dX4_hold_86 ?_
              refine v_getR (pc := 87) K fl_RX4_7 dX4_hold_87 (Nat.le_of_ble_eq_true rfl) rfl rfl ?_
              refine v_iload1 (pc := 90) K dX4_hold_90 ?_
              refine v_iload8 (pc := 91) K dX4_hold_91 ?_
              obtain ⟨v27, h28, h⟩ := bd h
              refine v_cS2I (pc := 93)  K ca_yX4_at ml_RX4_94 (t_X4_at _ K.nt K.ad s13.2.2 a0 s13.2.1 v27 h28) (Nat.le_of_ble_eq_true rfl) (by decide) (by decide) dX4_hold_93 ?_
              obtain ⟨j29, h30, h⟩ := bd h
              refine v_laload (pc := 96) K dX4_hold_96 (Nat.le_of_ble_eq_true rfl) rfl h30 ?_
              refine v_lload2 (pc := 97) K dX4_hold_97 ?_
              refine v_lload4 (pc := 98) K dX4_hold_98 ?_
              obtain ⟨v31, h32, h⟩ := bd h
              refine v_cS3I (pc := 100)  K ca_yX4_isIn ml_RX4_76 (t_X4_isIn _ K.nt K.ad s13.2.2 (s13.2.2.2 1 j29) a1 a2 v31 h32) (Nat.le_of_ble_eq_true rfl) (by decide) (by decide) dX4_hold_100 ?_
              refine v_if_eq (pc := 103) (tgt := 109) K dX4_hold_103 (by decide) (fun c33 => ?_) (fun c33 => ?_)
              · have h := it c33 h
                refine v_aload0 (pc := 109) K dX4_hold_109 ?_
                refine v_getR (pc := 110) K fl_RX4_7 dX4_hold_110 (Nat.le_of_ble_eq_true rfl) rfl rfl ?_
                refine v_iload1 (pc := 113) K dX4_hold_113 ?_
                refine v_iload8 (pc := 114) K dX4_hold_114 ?_
                obtain ⟨v34, h35, h⟩ := bd h
                refine v_cS2I (pc := 116)  K ca_yX4_at ml_RX4_94 (t_X4_at _ K.nt K.ad s13.2.2 a0 s13.2.1 v34 h35) (Nat.le_of_ble_eq_true rfl) (by decide) (by decide) dX4_hold_116 ?_
                refine v_aload0 (pc := 119) K dX4_hold_119 ?_
                refine v_getR (pc := 120) K fl_RX4_7 dX4_hold_120 (Nat.le_of_ble_eq_true rfl) rfl rfl ?_
                refine v_iload1 (pc := 123) K dX4_hold_123 ?_
                refine v_iload8 (pc := 124) K dX4_hold_124 ?_
                obtain ⟨v36, h37, h⟩ := bd h
                refine v_cS2I (pc := 126)  K ca_yX4_at ml_RX4_94 (t_X4_at _ K.nt K.ad s13.2.2 a0 s13.2.1 v36 h37) (Nat.le_of_ble_eq_true rfl) (by decide) (by decide) dX4_hold_126 ?_
                obtain ⟨j38, h39, h⟩ := bd h
                refine v_laload (pc := 129) K dX4_hold_129 (Nat.le_of_ble_eq_true rfl) rfl h39 ?_
                refine v_lload2 (pc := 130) K dX4_hold_130 ?_
                obtain ⟨t40, h42, h⟩ := bd h
                have hJ41 : V (mkX M YM E base 9 (.ok (some (.int r.1))) r.2) s13.2.2 141 [some (.ref (E.2.2 0)), some (.int a0), some (.long a1), none, some (.long a2), none, some (.int a3), some (.int s13.1), some (.int s13.2.1)] [.long t40, .int v34, .ref (E.2.2 1)] := by
                  obtain ⟨j44, h45, h⟩ := bd h
                  refine v_lastore (pc := 141) K dX4_hold_141 (Nat.le_of_ble_eq_true rfl) rfl h45 ?_
                  refine v_iinc7 (pc := 142) (w := 1) K dX4_hold_142 rfl (Nat.le_of_ble_eq_true rfl) (by decide) ?_
                  cases h
                  exact hJ24
                clear h
                have h := h42
                refine v_lc_ge (pc := 131) (tgt := 139) K dX4_hold_131 dX4_hold_132 (by decide) (fun c43 => ?_) (fun c43 => ?_)
                · have h := it c43 h
                  refine v_lload4 (pc := 139) K dX4_hold_139 ?_
                  cases h
                  exact hJ41
                · have h := ie c43 h
                  refine v_lload2 (pc := 135) K dX4_hold_135 ?_
                  refine v_goto (pc := 136) (tgt := 141) K dX4_hold_136 (by decide) ?_
                  cases h
                  exact hJ41
              · have h := ie c33 h
                refine v_goto (pc := 106) (tgt := 145) K dX4_hold_106 (by decide) ?_
                cases h
                exact hJ24
        · have h := it c12 h
          refine v_aload0 (pc := 53) K dX4_hold_53 ?_
          refine v_ic3 (pc := 54) K dX4_hold_54 ?_
          obtain ⟨v47, h48, h⟩ := bd h
          refine v_cV1I (pc := 55)  K ca_yX4_tooGreat ml_RX4_120 (Nat.le_of_ble_eq_true rfl) rfl rfl (t_X4_tooGreat _ K.nt K.ad (sI σ 0 0 (0 : Int32)) (3 : Int32) v47 h48) (Nat.le_of_ble_eq_true rfl) (by decide) (by decide) dX4_hold_55 ?_
          cases h
          exact v_iret (pc := 58) K dX4_hold_58 rfl rfl
    · have h := ie c4 h
      refine v_aload0 (pc := 28) K dX4_hold_28 ?_
      refine v_ic2 (pc := 29) K dX4_hold_29 ?_
      obtain ⟨v49, h50, h⟩ := bd h
      refine v_cV1I (pc := 30)  K ca_yX4_fails ml_RX4_105 (Nat.le_of_ble_eq_true rfl) rfl rfl (t_X4_fails _ K.nt K.ad (sI σ 0 0 (0 : Int32)) (2 : Int32) v49 h50) (Nat.le_of_ble_eq_true rfl) (by decide) (by decide) dX4_hold_30 ?_
      cases h
      exact v_iret (pc := 33) K dX4_hold_33 rfl rfl
  · have h := it c3 h
    refine v_aload0 (pc := 15) K dX4_hold_15 ?_
    refine v_ic1 (pc := 16) K dX4_hold_16 ?_
    obtain ⟨v51, h52, h⟩ := bd h
    refine v_cV1I (pc := 17)  K ca_yX4_fails ml_RX4_105 (Nat.le_of_ble_eq_true rfl) rfl rfl (t_X4_fails _ K.nt K.ad (sI σ 0 0 (0 : Int32)) (1 : Int32) v51 h52) (Nat.le_of_ble_eq_true rfl) (by decide) (by decide) dX4_hold_17 ?_
    cases h
    exact v_iret (pc := 20) K dX4_hold_20 rfl rfl
set_option maxRecDepth 100000 in
def m_X4_fill (σ : St) (a0 : Int32) (a1 : Int64) (a2 : Int32) : Option (Int32 × St) :=
  ((m_X4_areIn (sI σ 0 0 (0 : Int32)) a0 a2).bind fun v1 => (if v1 = 0 then ((m_X4_fails (sI σ 0 0 (0 : Int32)) (1 : Int32)).bind fun v44 => some (v44.1, v44.2)) else ((m_X4_fits (sI σ 0 0 (0 : Int32)) a0 a1).bind fun v4 => (if v4 = 0 then ((m_X4_tooGreat (sI σ 0 0 (0 : Int32)) (2 : Int32)).bind fun v42 => some (v42.1, v42.2)) else ((lp 5000 (fun (s7 : Int32 × Int32 × St) => (if s7.2.2.1 0 5 ≤ s7.2.1 then some (.inr (s7.1, s7.2.2)) else ((m_X4_at s7.2.2 a2 s7.2.1).bind fun v15 => ((ix v15 1536).bind fun j17 => ((if s7.2.2.1 4 j17 = 0 then some (s7.1, s7.2.2) else ((m_X4_at s7.2.2 a0 s7.2.1).bind fun v23 => ((ix v23 1152).bind fun j25 => ((if s7.2.2.1 2 j25 = 0 then some (1 : Int32) else some (0 : Int32)).bind fun (t27 : Int32) => ((m_X4_flag s7.2.2 t27).bind fun v31 => ((m_X4_at s7.2.2 a0 s7.2.1).bind fun v33 => ((ix v33 1152).bind fun j35 => ((m_X4_at (sI s7.2.2 2 j35 (nz (1 : Int32))) a0 s7.2.1).bind fun v37 => ((ix v37 1152).bind fun j39 => some ((s7.1 + v31), (sL (sI s7.2.2 2 j35 (nz (1 : Int32))) 1 j39 a1))))))))))).bind fun (t19 : Int32 × St) => some (.inl (t19.1, (s7.2.1 + 1), t19.2))))))) ((0 : Int32), (0 : Int32), (sI σ 0 0 (0 : Int32)))).bind fun (r8 : Int32 × St) => some (r8.1, r8.2))))))
set_option maxHeartbeats 4000000 in
set_option maxRecDepth 100000 in
theorem t_X4_fill (l : Launch) (hnt : l.stackTraces = false) {E : Ev} {base : Nat} (hE : Adr YM E base) (σ : St) (a0 : Int32) (a1 : Int64) (a2 : Int32) (r : Int32 × St) (h : m_X4_fill σ a0 a1 a2 = some r) : Ctr l yX4_fill cX4_fill 7 (some .int) 3 68 YM E base [.ref (E.2.2 0), .int a0, .long a1, .int a2] σ (.ok (some (.int r.1))) r.2 := by
  unfold m_X4_fill at h
  refine ofV 2 (by decide +kernel) rfl hE hnt (Nat.le_of_ble_eq_true rfl) rfl (fun M hN K => ?_)
  refine v_aload0 (pc := 0) K dX4_fill_0 ?_
  refine v_ic0 (pc := 1) K dX4_fill_1 ?_
  refine v_put (pc := 2) K fw_RX4_69 dX4_fill_2 rfl rfl (Nat.le_of_ble_eq_true rfl) rfl rfl ?_
  refine v_aload0 (pc := 5) K dX4_fill_5 ?_
  refine v_iload1 (pc := 6) K dX4_fill_6 ?_
  refine v_iload4 (pc := 7) K dX4_fill_7 ?_
  obtain ⟨v1, h2, h⟩ := bd h
  refine v_cV2I (pc := 9)  K ca_yX4_areIn ml_RX4_164 (Nat.le_of_ble_eq_true rfl) rfl rfl (t_X4_areIn _ K.nt K.ad (sI σ 0 0 (0 : Int32)) a0 a2 v1 h2) (Nat.le_of_ble_eq_true rfl) (by decide) (by decide) dX4_fill_9 ?_
  refine v_if_ne (pc := 12) (tgt := 21) K dX4_fill_12 (by decide) (fun c3 => ?_) (fun c3 => ?_)
  · have h := ie c3 h
    refine v_aload0 (pc := 21) K dX4_fill_21 ?_
    refine v_iload1 (pc := 22) K dX4_fill_22 ?_
    refine v_lload2 (pc := 23) K dX4_fill_23 ?_
    obtain ⟨v4, h5, h⟩ := bd h
    refine v_cV2I (pc := 24)  K ca_yX4_fits ml_RX4_116 (Nat.le_of_ble_eq_true rfl) rfl rfl (t_X4_fits _ K.nt K.ad (sI σ 0 0 (0 : Int32)) a0 a1 v4 h5) (Nat.le_of_ble_eq_true rfl) (by decide) (by decide) dX4_fill_24 ?_
    refine v_if_ne (pc := 27) (tgt := 36) K dX4_fill_27 (by decide) (fun c6 => ?_) (fun c6 => ?_)
    · have h := ie c6 h
      refine v_ic0 (pc := 36) K dX4_fill_36 ?_
      refine v_istore5 (pc := 37) K dX4_fill_37 rfl (Nat.le_of_ble_eq_true rfl) ?_
      refine v_ic0 (pc := 39) K dX4_fill_39 ?_
      refine v_istore6 (pc := 40) K dX4_fill_40 rfl (Nat.le_of_ble_eq_true rfl) ?_
      obtain ⟨r8, h10, h⟩ := bd h
      have hJ9 : V (mkX M YM E base 7 (.ok (some (.int r.1))) r.2) r8.2 126 [none, none, none, none, none, some (.int r8.1), none] [] := by
        refine v_iload5 (pc := 126) K dX4_fill_126 ?_
        cases h
        exact v_iret (pc := 128) K dX4_fill_128 rfl rfl
      clear h
      have hL41 := lpv h10 (fun s7 : Int32 × Int32 × St => V (mkX M YM E base 7 (.ok (some (.int r.1))) r.2) s7.2.2 42 [some (.ref (E.2.2 0)), some (.int a0), some (.long a1), none, some (.int a2), some (.int s7.1), some (.int s7.2.1)] [])
      refine hL41 (fun s7 o h hk => ?_)
      refine v_iload6 (pc := 42) K dX4_fill_42 ?_
      refine v_aload0 (pc := 44) K dX4_fill_44 ?_
      refine v_getI (pc := 45) K fl_RX4_80 dX4_fill_45 (Nat.le_of_ble_eq_true rfl) rfl rfl ?_
      refine v_icmp_ge (pc := 48) (tgt := 126) K dX4_fill_48 (by decide) (fun c14 => ?_) (fun c14 => ?_)
      · have h := it c14 h
        have e := lx h hk
        cases e
        exact v_fg [false, false, false, true, false, true, false] hJ9
      · have h := ie c14 h
        refine v_aload0 (pc := 51) K dX4_fill_51 ?_
        refine v_getR (pc := 52) K fl_RX4_21 dX4_fill_52 (Nat.le_of_ble_eq_true rfl) rfl rfl ?_
        refine v_iload4 (pc := 55) K dX4_fill_55 ?_
        refine v_iload6 (pc := 57) K dX4_fill_57 ?_
        obtain ⟨v15, h16, h⟩ := bd h
        refine v_cS2I (pc := 59)  K ca_yX4_at ml_RX4_94 (t_X4_at _ K.nt K.ad s7.2.2 a2 s7.2.1 v15 h16) (Nat.le_of_ble_eq_true rfl) (by decide) (by decide) dX4_fill_59 ?_
        obtain ⟨j17, h18, h⟩ := bd h
        refine v_zaload (pc := 62) K dX4_fill_62 (Nat.le_of_ble_eq_true rfl) rfl h18 ?_
        obtain ⟨t19, h21, h⟩ := bd h
        have hJ20 : V (mkX M YM E base 7 (.ok (some (.int r.1))) r.2) t19.2 120 [some (.ref (E.2.2 0)), some (.int a0), some (.long a1), none, some (.int a2), some (.int t19.1), some (.int s7.2.1)] [] := by
          refine v_iinc6 (pc := 120) (w := 1) K dX4_fill_120 rfl (Nat.le_of_ble_eq_true rfl) (by decide) ?_
          refine v_goto (pc := 123) (tgt := 42) K dX4_fill_123 (by decide) ?_
          have e := lfc h hk
          exact e
        clear h
        have h := h21
        refine v_if_ne (pc := 63) (tgt := 69) K dX4_fill_63 (by decide) (fun c22 => ?_) (fun c22 => ?_)
        · have h := ie c22 h
          refine v_iload5 (pc := 69) K dX4_fill_69 ?_
          refine v_aload0 (pc := 71) K dX4_fill_71 ?_
          refine v_getR (pc := 72) K fl_RX4_13 dX4_fill_72 (Nat.le_of_ble_eq_true rfl) rfl rfl ?_
          refine v_iload1 (pc := 75) K dX4_fill_75 ?_
          refine v_iload6 (pc := 76) K dX4_fill_76 ?_
          obtain ⟨v23, h24, h⟩ := bd h
          refine v_cS2I (pc := 78)  K ca_yX4_at ml_RX4_94 (t_X4_at _ K.nt K.ad s7.2.2 a0 s7.2.1 v23 h24) (Nat.le_of_ble_eq_true rfl) (by decide) (by decide) dX4_fill_78 ?_
          obtain ⟨j25, h26, h⟩ := bd h
          refine v_zaload (pc := 81) K dX4_fill_81 (Nat.le_of_ble_eq_true rfl) rfl h26 ?_
          obtain ⟨t27, h29, h⟩ := bd h
          have hJ28 : V (mkX M YM E base 7 (.ok (some (.int r.1))) r.2) s7.2.2 90 [some (.ref (E.2.2 0)), some (.int a0), some (.long a1), none, some (.int a2), none, some (.int s7.2.1)] [.int t27, .int s7.1] := by
            obtain ⟨v31, h32, h⟩ := bd h
            refine v_cS1I (pc := 90)  K ca_yX4_flag ml_RX4_123 (t_X4_flag _ K.nt K.ad s7.2.2 t27 v31 h32) (Nat.le_of_ble_eq_true rfl) (by decide) (by decide) dX4_fill_90 ?_
            refine v_iadd (pc := 93) K dX4_fill_93 ?_
            refine v_istore5 (pc := 94) K dX4_fill_94 rfl (Nat.le_of_ble_eq_true rfl) ?_
            refine v_aload0 (pc := 96) K dX4_fill_96 ?_
            refine v_getR (pc := 97) K fl_RX4_13 dX4_fill_97 (Nat.le_of_ble_eq_true rfl) rfl rfl ?_
            refine v_iload1 (pc := 100) K dX4_fill_100 ?_
            refine v_iload6 (pc := 101) K dX4_fill_101 ?_
            obtain ⟨v33, h34, h⟩ := bd h
            refine v_cS2I (pc := 103)  K ca_yX4_at ml_RX4_94 (t_X4_at _ K.nt K.ad s7.2.2 a0 s7.2.1 v33 h34) (Nat.le_of_ble_eq_true rfl) (by decide) (by decide) dX4_fill_103 ?_
            refine v_ic1 (pc := 106) K dX4_fill_106 ?_
            obtain ⟨j35, h36, h⟩ := bd h
            refine v_zastore (pc := 107) K dX4_fill_107 (Nat.le_of_ble_eq_true rfl) rfl h36 ?_
            refine v_aload0 (pc := 108) K dX4_fill_108 ?_
            refine v_getR (pc := 109) K fl_RX4_7 dX4_fill_109 (Nat.le_of_ble_eq_true rfl) rfl rfl ?_
            refine v_iload1 (pc := 112) K dX4_fill_112 ?_
            refine v_iload6 (pc := 113) K dX4_fill_113 ?_
            obtain ⟨v37, h38, h⟩ := bd h
            refine v_cS2I (pc := 115)  K ca_yX4_at ml_RX4_94 (t_X4_at _ K.nt K.ad (sI s7.2.2 2 j35 (nz (1 : Int32))) a0 s7.2.1 v37 h38) (Nat.le_of_ble_eq_true rfl) (by decide) (by decide) dX4_fill_115 ?_
            refine v_lload2 (pc := 118) K dX4_fill_118 ?_
            obtain ⟨j39, h40, h⟩ := bd h
            refine v_lastore (pc := 119) K dX4_fill_119 (Nat.le_of_ble_eq_true rfl) rfl h40 ?_
            cases h
            exact hJ20
          clear h
          have h := h29
          refine v_if_ne (pc := 82) (tgt := 89) K dX4_fill_82 (by decide) (fun c30 => ?_) (fun c30 => ?_)
          · have h := ie c30 h
            refine v_ic0 (pc := 89) K dX4_fill_89 ?_
            cases h
            exact (v_fg [true, true, true, true, true, false, true] hJ28)
          · have h := it c30 h
            refine v_ic1 (pc := 85) K dX4_fill_85 ?_
            refine v_goto (pc := 86) (tgt := 90) K dX4_fill_86 (by decide) ?_
            cases h
            exact (v_fg [true, true, true, true, true, false, true] hJ28)
        · have h := it c22 h
          refine v_goto (pc := 66) (tgt := 120) K dX4_fill_66 (by decide) ?_
          cases h
          exact hJ20
    · have h := it c6 h
      refine v_aload0 (pc := 30) K dX4_fill_30 ?_
      refine v_ic2 (pc := 31) K dX4_fill_31 ?_
      obtain ⟨v42, h43, h⟩ := bd h
      refine v_cV1I (pc := 32)  K ca_yX4_tooGreat ml_RX4_120 (Nat.le_of_ble_eq_true rfl) rfl rfl (t_X4_tooGreat _ K.nt K.ad (sI σ 0 0 (0 : Int32)) (2 : Int32) v42 h43) (Nat.le_of_ble_eq_true rfl) (by decide) (by decide) dX4_fill_32 ?_
      cases h
      exact v_iret (pc := 35) K dX4_fill_35 rfl rfl
  · have h := it c3 h
    refine v_aload0 (pc := 15) K dX4_fill_15 ?_
    refine v_ic1 (pc := 16) K dX4_fill_16 ?_
    obtain ⟨v44, h45, h⟩ := bd h
    refine v_cV1I (pc := 17)  K ca_yX4_fails ml_RX4_105 (Nat.le_of_ble_eq_true rfl) rfl rfl (t_X4_fails _ K.nt K.ad (sI σ 0 0 (0 : Int32)) (1 : Int32) v44 h45) (Nat.le_of_ble_eq_true rfl) (by decide) (by decide) dX4_fill_17 ?_
    cases h
    exact v_iret (pc := 20) K dX4_fill_20 rfl rfl
set_option maxRecDepth 100000 in
def m_X4_areOne (σ : St) (a0 : Int32) (a1 : Int32) (a2 : Int32) : Option (Int32) :=
  ((m_X4_at σ a0 a2).bind fun v1 => ((m_X4_at σ a1 a2).bind fun v3 => ((ix v1 1152).bind fun j5 => ((ix v3 1152).bind fun j7 => ((if σ.1 2 j5 = σ.1 2 j7 then ((ix v1 1152).bind fun j13 => (if σ.1 2 j13 = 0 then some (1 : Int32) else ((ix v1 1152).bind fun j16 => ((ix v3 1152).bind fun j18 => (if σ.2 1 j16 = σ.2 1 j18 then some (1 : Int32) else some (0 : Int32)))))) else some (0 : Int32)).bind fun (t9 : Int32) => some (nz t9))))))
set_option maxHeartbeats 4000000 in
set_option maxRecDepth 100000 in
theorem t_X4_areOne (l : Launch) (hnt : l.stackTraces = false) {E : Ev} {base : Nat} (hE : Adr YM E base) (σ : St) (a0 : Int32) (a1 : Int32) (a2 : Int32) (r : Int32) (h : m_X4_areOne σ a0 a1 a2 = some r) : Ctr l yX4_areOne cX4_areOne 6 (some .boolean) 1 21 YM E base [.ref (E.2.2 0), .int a0, .int a1, .int a2] σ (.ok (some (.int r))) σ := by
  unfold m_X4_areOne at h
  refine ofV 2 (by decide +kernel) rfl hE hnt (Nat.le_of_ble_eq_true rfl) rfl (fun M hN K => ?_)
  refine v_iload1 (pc := 0) K dX4_areOne_0 ?_
  refine v_iload3 (pc := 1) K dX4_areOne_1 ?_
  obtain ⟨v1, h2, h⟩ := bd h
  refine v_cS2I (pc := 2)  K ca_yX4_at ml_RX4_94 (t_X4_at _ K.nt K.ad σ a0 a2 v1 h2) (Nat.le_of_ble_eq_true rfl) (by decide) (by decide) dX4_areOne_2 ?_
  refine v_istore4 (pc := 5) K dX4_areOne_5 rfl (Nat.le_of_ble_eq_true rfl) ?_
  refine v_iload2 (pc := 7) K dX4_areOne_7 ?_
  refine v_iload3 (pc := 8) K dX4_areOne_8 ?_
  obtain ⟨v3, h4, h⟩ := bd h
  refine v_cS2I (pc := 9)  K ca_yX4_at ml_RX4_94 (t_X4_at _ K.nt K.ad σ a1 a2 v3 h4) (Nat.le_of_ble_eq_true rfl) (by decide) (by decide) dX4_areOne_9 ?_
  refine v_istore5 (pc := 12) K dX4_areOne_12 rfl (Nat.le_of_ble_eq_true rfl) ?_
  refine v_aload0 (pc := 14) K dX4_areOne_14 ?_
  refine v_getR (pc := 15) K fl_RX4_13 dX4_areOne_15 (Nat.le_of_ble_eq_true rfl) rfl rfl ?_
  refine v_iload4 (pc := 18) K dX4_areOne_18 ?_
  obtain ⟨j5, h6, h⟩ := bd h
  refine v_zaload (pc := 20) K dX4_areOne_20 (Nat.le_of_ble_eq_true rfl) rfl h6 ?_
  refine v_aload0 (pc := 21) K dX4_areOne_21 ?_
  refine v_getR (pc := 22) K fl_RX4_13 dX4_areOne_22 (Nat.le_of_ble_eq_true rfl) rfl rfl ?_
  refine v_iload5 (pc := 25) K dX4_areOne_25 ?_
  obtain ⟨j7, h8, h⟩ := bd h
  refine v_zaload (pc := 27) K dX4_areOne_27 (Nat.le_of_ble_eq_true rfl) rfl h8 ?_
  obtain ⟨t9, h11, h⟩ := bd h
  have hJ10 : V (mkX M YM E base 6 (.ok (some (.int r))) σ) σ 64 [none, none, none, none, none, none] [.int t9] := by
    cases h
    exact v_zret (pc := 64) K dX4_areOne_64 rfl rfl
  clear h
  have h := h11
  refine v_icmp_ne (pc := 28) (tgt := 63) K dX4_areOne_28 (by decide) (fun c12 => ?_) (fun c12 => ?_)
  · have h := ie c12 h
    refine v_ic0 (pc := 63) K dX4_areOne_63 ?_
    cases h
    exact (v_fg [false, false, false, false, false, false] hJ10)
  · have h := it c12 h
    refine v_aload0 (pc := 31) K dX4_areOne_31 ?_
    refine v_getR (pc := 32) K fl_RX4_13 dX4_areOne_32 (Nat.le_of_ble_eq_true rfl) rfl rfl ?_
    refine v_iload4 (pc := 35) K dX4_areOne_35 ?_
    obtain ⟨j13, h14, h⟩ := bd h
    refine v_zaload (pc := 37) K dX4_areOne_37 (Nat.le_of_ble_eq_true rfl) rfl h14 ?_
    refine v_if_eq (pc := 38) (tgt := 59) K dX4_areOne_38 (by decide) (fun c15 => ?_) (fun c15 => ?_)
    · have h := it c15 h
      refine v_ic1 (pc := 59) K dX4_areOne_59 ?_
      refine v_goto (pc := 60) (tgt := 64) K dX4_areOne_60 (by decide) ?_
      cases h
      exact (v_fg [false, false, false, false, false, false] hJ10)
    · have h := ie c15 h
      refine v_aload0 (pc := 41) K dX4_areOne_41 ?_
      refine v_getR (pc := 42) K fl_RX4_7 dX4_areOne_42 (Nat.le_of_ble_eq_true rfl) rfl rfl ?_
      refine v_iload4 (pc := 45) K dX4_areOne_45 ?_
      obtain ⟨j16, h17, h⟩ := bd h
      refine v_laload (pc := 47) K dX4_areOne_47 (Nat.le_of_ble_eq_true rfl) rfl h17 ?_
      refine v_aload0 (pc := 48) K dX4_areOne_48 ?_
      refine v_getR (pc := 49) K fl_RX4_7 dX4_areOne_49 (Nat.le_of_ble_eq_true rfl) rfl rfl ?_
      refine v_iload5 (pc := 52) K dX4_areOne_52 ?_
      obtain ⟨j18, h19, h⟩ := bd h
      refine v_laload (pc := 54) K dX4_areOne_54 (Nat.le_of_ble_eq_true rfl) rfl h19 ?_
      refine v_lc_ne (pc := 55) (tgt := 63) K dX4_areOne_55 dX4_areOne_56 (by decide) (fun c20 => ?_) (fun c20 => ?_)
      · have h := ie c20 h
        refine v_ic0 (pc := 63) K dX4_areOne_63 ?_
        cases h
        exact (v_fg [false, false, false, false, false, false] hJ10)
      · have h := it c20 h
        refine v_ic1 (pc := 59) K dX4_areOne_59 ?_
        refine v_goto (pc := 60) (tgt := 64) K dX4_areOne_60 (by decide) ?_
        cases h
        exact (v_fg [false, false, false, false, false, false] hJ10)
set_option maxRecDepth 100000 in
def m_X4_copy (σ : St) (a0 : Int32) (a1 : Int32) (a2 : Int32) : Option (Int32 × St) :=
  ((m_X4_areIn (sI σ 0 0 (0 : Int32)) a0 a2).bind fun v1 => (if v1 = 0 then ((m_X4_fails (sI σ 0 0 (0 : Int32)) (1 : Int32)).bind fun v4 => some (v4.1, v4.2)) else ((m_X4_isColumn (sI σ 0 0 (0 : Int32)) a1).bind fun v6 => (if v6 = 0 then ((m_X4_fails (sI σ 0 0 (0 : Int32)) (1 : Int32)).bind fun v66 => some (v66.1, v66.2)) else (eB (lp 5000 (fun (s9 : Int32) => (if (sI σ 0 0 (0 : Int32)).1 0 5 ≤ s9 then some (.inr (.inl ())) else ((m_X4_hasUnder (sI σ 0 0 (0 : Int32)) a1 s9 a2).bind fun v17 => (if v17 = 0 then some (.inl (s9 + 1)) else ((m_X4_at (sI σ 0 0 (0 : Int32)) a1 s9).bind fun v20 => ((ix v20 1152).bind fun j22 => ((m_X4_fits (sI σ 0 0 (0 : Int32)) a0 ((sI σ 0 0 (0 : Int32)).2 1 j22)).bind fun v24 => (if v24 = 0 then ((m_X4_tooGreat (sI σ 0 0 (0 : Int32)) (2 : Int32)).bind fun v27 => some (.inr (.inr (v27.1, v27.2)))) else some (.inl (s9 + 1)))))))))) (0 : Int32)) fun (r10 : Unit) => ((lp 5000 (fun (s29 : Int32 × Int32 × St) => (if s29.2.2.1 0 5 ≤ s29.2.1 then some (.inr (s29.1, s29.2.2)) else ((m_X4_at s29.2.2 a2 s29.2.1).bind fun v37 => ((ix v37 1536).bind fun j39 => ((if s29.2.2.1 4 j39 = 0 then some (s29.1, s29.2.2) else ((m_X4_areOne s29.2.2 a0 a1 s29.2.1).bind fun v45 => (if v45 = 0 then ((m_X4_at s29.2.2 a0 s29.2.1).bind fun v48 => ((m_X4_at s29.2.2 a1 s29.2.1).bind fun v50 => ((ix v50 1152).bind fun j52 => ((ix v48 1152).bind fun j54 => ((m_X4_at (sI s29.2.2 2 j54 (nz (s29.2.2.1 2 j52))) a0 s29.2.1).bind fun v56 => ((m_X4_at (sI s29.2.2 2 j54 (nz (s29.2.2.1 2 j52))) a1 s29.2.1).bind fun v58 => ((ix v58 1152).bind fun j60 => ((ix v56 1152).bind fun j62 => some ((s29.1 + 1), (sL (sI s29.2.2 2 j54 (nz (s29.2.2.1 2 j52))) 1 j62 ((sI s29.2.2 2 j54 (nz (s29.2.2.1 2 j52))).2 1 j60))))))))))) else some (s29.1, s29.2.2)))).bind fun (t41 : Int32 × St) => some (.inl (t41.1, (s29.2.1 + 1), t41.2))))))) ((0 : Int32), (0 : Int32), (sI σ 0 0 (0 : Int32)))).bind fun (r30 : Int32 × St) => some (r30.1, r30.2)))))))
set_option maxHeartbeats 4000000 in
set_option maxRecDepth 100000 in
theorem t_X4_copy (l : Launch) (hnt : l.stackTraces = false) {E : Ev} {base : Nat} (hE : Adr YM E base) (σ : St) (a0 : Int32) (a1 : Int32) (a2 : Int32) (r : Int32 × St) (h : m_X4_copy σ a0 a1 a2 = some r) : Ctr l yX4_copy cX4_copy 6 (some .int) 3 68 YM E base [.ref (E.2.2 0), .int a0, .int a1, .int a2] σ (.ok (some (.int r.1))) r.2 := by
  unfold m_X4_copy at h
  refine ofV 2 (by decide +kernel) rfl hE hnt (Nat.le_of_ble_eq_true rfl) rfl (fun M hN K => ?_)
  refine v_aload0 (pc := 0) K dX4_copy_0 ?_
  refine v_ic0 (pc := 1) K dX4_copy_1 ?_
  refine v_put (pc := 2) K fw_RX4_69 dX4_copy_2 rfl rfl (Nat.le_of_ble_eq_true rfl) rfl rfl ?_
  refine v_aload0 (pc := 5) K dX4_copy_5 ?_
  refine v_iload1 (pc := 6) K dX4_copy_6 ?_
  refine v_iload3 (pc := 7) K dX4_copy_7 ?_
  obtain ⟨v1, h2, h⟩ := bd h
  refine v_cV2I (pc := 8)  K ca_yX4_areIn ml_RX4_164 (Nat.le_of_ble_eq_true rfl) rfl rfl (t_X4_areIn _ K.nt K.ad (sI σ 0 0 (0 : Int32)) a0 a2 v1 h2) (Nat.le_of_ble_eq_true rfl) (by decide) (by decide) dX4_copy_8 ?_
  refine v_if_eq (pc := 11) (tgt := 22) K dX4_copy_11 (by decide) (fun c3 => ?_) (fun c3 => ?_)
  · have h := it c3 h
    refine v_aload0 (pc := 22) K dX4_copy_22 ?_
    refine v_ic1 (pc := 23) K dX4_copy_23 ?_
    obtain ⟨v4, h5, h⟩ := bd h
    refine v_cV1I (pc := 24)  K ca_yX4_fails ml_RX4_105 (Nat.le_of_ble_eq_true rfl) rfl rfl (t_X4_fails _ K.nt K.ad (sI σ 0 0 (0 : Int32)) (1 : Int32) v4 h5) (Nat.le_of_ble_eq_true rfl) (by decide) (by decide) dX4_copy_24 ?_
    cases h
    exact v_iret (pc := 27) K dX4_copy_27 rfl rfl
  · have h := ie c3 h
    refine v_aload0 (pc := 14) K dX4_copy_14 ?_
    refine v_iload2 (pc := 15) K dX4_copy_15 ?_
    obtain ⟨v6, h7, h⟩ := bd h
    refine v_cV1I (pc := 16)  K ca_yX4_isColumn ml_RX4_87 (Nat.le_of_ble_eq_true rfl) rfl rfl (t_X4_isColumn _ K.nt K.ad (sI σ 0 0 (0 : Int32)) a1 v6 h7) (Nat.le_of_ble_eq_true rfl) (by decide) (by decide) dX4_copy_16 ?_
    refine v_if_ne (pc := 19) (tgt := 28) K dX4_copy_19 (by decide) (fun c8 => ?_) (fun c8 => ?_)
    · have h := ie c8 h
      refine v_ic0 (pc := 28) K dX4_copy_28 ?_
      refine v_istore4 (pc := 29) K dX4_copy_29 rfl (Nat.le_of_ble_eq_true rfl) ?_
      obtain ⟨w15, h12, hi13, hq14⟩ := eb h
      have hJ11 : ∀ r10 : Unit, w15 = .inl r10 → V (mkX M YM E base 6 (.ok (some (.int r.1))) r.2) (sI σ 0 0 (0 : Int32)) 82 [some (.ref (E.2.2 0)), some (.int a0), some (.int a1), some (.int a2), none, none] [] := by
        intro r10 ha
        have h := hi13 _ ha
        refine v_ic0 (pc := 82) K dX4_copy_82 ?_
        refine v_istore4 (pc := 83) K dX4_copy_83 rfl (Nat.le_of_ble_eq_true rfl) ?_
        refine v_ic0 (pc := 85) K dX4_copy_85 ?_
        refine v_istore5 (pc := 86) K dX4_copy_86 rfl (Nat.le_of_ble_eq_true rfl) ?_
        obtain ⟨r30, h32, h⟩ := bd h
        have hJ31 : V (mkX M YM E base 6 (.ok (some (.int r.1))) r.2) r30.2 178 [none, none, none, none, some (.int r30.1), none] [] := by
          refine v_iload4 (pc := 178) K dX4_copy_178 ?_
          cases h
          exact v_iret (pc := 180) K dX4_copy_180 rfl rfl
        clear h
        have hL64 := lpv h32 (fun s29 : Int32 × Int32 × St => V (mkX M YM E base 6 (.ok (some (.int r.1))) r.2) s29.2.2 88 [some (.ref (E.2.2 0)), some (.int a0), some (.int a1), some (.int a2), some (.int s29.1), some (.int s29.2.1)] [])
        refine hL64 (fun s29 o h hk => ?_)
        refine v_iload5 (pc := 88) K dX4_copy_88 ?_
        refine v_aload0 (pc := 90) K dX4_copy_90 ?_
        refine v_getI (pc := 91) K fl_RX4_80 dX4_copy_91 (Nat.le_of_ble_eq_true rfl) rfl rfl ?_
        refine v_icmp_ge (pc := 94) (tgt := 178) K dX4_copy_94 (by decide) (fun c36 => ?_) (fun c36 => ?_)
        · have h := it c36 h
          have e := lx h hk
          cases e
          exact v_fg [false, false, false, false, true, false] hJ31
        · have h := ie c36 h
          refine v_aload0 (pc := 97) K dX4_copy_97 ?_
          refine v_getR (pc := 98) K fl_RX4_21 dX4_copy_98 (Nat.le_of_ble_eq_true rfl) rfl rfl ?_
          refine v_iload3 (pc := 101) K dX4_copy_101 ?_
          refine v_iload5 (pc := 102) K dX4_copy_102 ?_
          obtain ⟨v37, h38, h⟩ := bd h
          refine v_cS2I (pc := 104)  K ca_yX4_at ml_RX4_94 (t_X4_at _ K.nt K.ad s29.2.2 a2 s29.2.1 v37 h38) (Nat.le_of_ble_eq_true rfl) (by decide) (by decide) dX4_copy_104 ?_
          obtain ⟨j39, h40, h⟩ := bd h
          refine v_zaload (pc := 107) K dX4_copy_107 (Nat.le_of_ble_eq_true rfl) rfl h40 ?_
          obtain ⟨t41, h43, h⟩ := bd h
          have hJ42 : V (mkX M YM E base 6 (.ok (some (.int r.1))) r.2) t41.2 172 [some (.ref (E.2.2 0)), some (.int a0), some (.int a1), some (.int a2), some (.int t41.1), some (.int s29.2.1)] [] := by
            refine v_iinc5 (pc := 172) (w := 1) K dX4_copy_172 rfl (Nat.le_of_ble_eq_true rfl) (by decide) ?_
            refine v_goto (pc := 175) (tgt := 88) K dX4_copy_175 (by decide) ?_
            have e := lfc h hk
            exact e
          clear h
          have h := h43
          refine v_if_eq (pc := 108) (tgt := 172) K dX4_copy_108 (by decide) (fun c44 => ?_) (fun c44 => ?_)
          · have h := it c44 h
            cases h
            exact hJ42
          · have h := ie c44 h
            refine v_aload0 (pc := 111) K dX4_copy_111 ?_
            refine v_iload1 (pc := 112) K dX4_copy_112 ?_
            refine v_iload2 (pc := 113) K dX4_copy_113 ?_
            refine v_iload5 (pc := 114) K dX4_copy_114 ?_
            obtain ⟨v45, h46, h⟩ := bd h
            refine v_cV3I (pc := 116)  K ca_yX4_areOne ml_RX4_273 (Nat.le_of_ble_eq_true rfl) rfl rfl (t_X4_areOne _ K.nt K.ad s29.2.2 a0 a1 s29.2.1 v45 h46) (Nat.le_of_ble_eq_true rfl) (by decide) (by decide) dX4_copy_116 ?_
            refine v_if_eq (pc := 119) (tgt := 125) K dX4_copy_119 (by decide) (fun c47 => ?_) (fun c47 => ?_)
            · have h := it c47 h
              refine v_aload0 (pc := 125) K dX4_copy_125 ?_
              refine v_getR (pc := 126) K fl_RX4_13 dX4_copy_126 (Nat.le_of_ble_eq_true rfl) rfl rfl ?_
              refine v_iload1 (pc := 129) K dX4_copy_129 ?_
              refine v_iload5 (pc := 130) K dX4_copy_130 ?_
              obtain ⟨v48, h49, h⟩ := bd h
              refine v_cS2I (pc := 132)  K ca_yX4_at ml_RX4_94 (t_X4_at _ K.nt K.ad s29.2.2 a0 s29.2.1 v48 h49) (Nat.le_of_ble_eq_true rfl) (by decide) (by decide) dX4_copy_132 ?_
              refine v_aload0 (pc := 135) K dX4_copy_135 ?_
              refine v_getR (pc := 136) K fl_RX4_13 dX4_copy_136 (Nat.le_of_ble_eq_true rfl) rfl rfl ?_
              refine v_iload2 (pc := 139) K dX4_copy_139 ?_
              refine v_iload5 (pc := 140) K dX4_copy_140 ?_
              obtain ⟨v50, h51, h⟩ := bd h
              refine v_cS2I (pc := 142)  K ca_yX4_at ml_RX4_94 (t_X4_at _ K.nt K.ad s29.2.2 a1 s29.2.1 v50 h51) (Nat.le_of_ble_eq_true rfl) (by decide) (by decide) dX4_copy_142 ?_
              obtain ⟨j52, h53, h⟩ := bd h
              refine v_zaload (pc := 145) K dX4_copy_145 (Nat.le_of_ble_eq_true rfl) rfl h53 ?_
              obtain ⟨j54, h55, h⟩ := bd h
              refine v_zastore (pc := 146) K dX4_copy_146 (Nat.le_of_ble_eq_true rfl) rfl h55 ?_
              refine v_aload0 (pc := 147) K dX4_copy_147 ?_
              refine v_getR (pc := 148) K fl_RX4_7 dX4_copy_148 (Nat.le_of_ble_eq_true rfl) rfl rfl ?_
              refine v_iload1 (pc := 151) K dX4_copy_151 ?_
              refine v_iload5 (pc := 152) K dX4_copy_152 ?_
              obtain ⟨v56, h57, h⟩ := bd h
              refine v_cS2I (pc := 154)  K ca_yX4_at ml_RX4_94 (t_X4_at _ K.nt K.ad (sI s29.2.2 2 j54 (nz (s29.2.2.1 2 j52))) a0 s29.2.1 v56 h57) (Nat.le_of_ble_eq_true rfl) (by decide) (by decide) dX4_copy_154 ?_
              refine v_aload0 (pc := 157) K dX4_copy_157 ?_
              refine v_getR (pc := 158) K fl_RX4_7 dX4_copy_158 (Nat.le_of_ble_eq_true rfl) rfl rfl ?_
              refine v_iload2 (pc := 161) K dX4_copy_161 ?_
              refine v_iload5 (pc := 162) K dX4_copy_162 ?_
              obtain ⟨v58, h59, h⟩ := bd h
              refine v_cS2I (pc := 164)  K ca_yX4_at ml_RX4_94 (t_X4_at _ K.nt K.ad (sI s29.2.2 2 j54 (nz (s29.2.2.1 2 j52))) a1 s29.2.1 v58 h59) (Nat.le_of_ble_eq_true rfl) (by decide) (by decide) dX4_copy_164 ?_
              obtain ⟨j60, h61, h⟩ := bd h
              refine v_laload (pc := 167) K dX4_copy_167 (Nat.le_of_ble_eq_true rfl) rfl h61 ?_
              obtain ⟨j62, h63, h⟩ := bd h
              refine v_lastore (pc := 168) K dX4_copy_168 (Nat.le_of_ble_eq_true rfl) rfl h63 ?_
              refine v_iinc4 (pc := 169) (w := 1) K dX4_copy_169 rfl (Nat.le_of_ble_eq_true rfl) (by decide) ?_
              cases h
              exact hJ42
            · have h := ie c47 h
              refine v_goto (pc := 122) (tgt := 172) K dX4_copy_122 (by decide) ?_
              cases h
              exact hJ42
      clear h
      have hL65 := lpv h12 (fun s9 : Int32 => V (mkX M YM E base 6 (.ok (some (.int r.1))) r.2) (sI σ 0 0 (0 : Int32)) 31 [some (.ref (E.2.2 0)), some (.int a0), some (.int a1), some (.int a2), some (.int s9), none] [])
      refine hL65 (fun s9 o h hk => ?_)
      refine v_iload4 (pc := 31) K dX4_copy_31 ?_
      refine v_aload0 (pc := 33) K dX4_copy_33 ?_
      refine v_getI (pc := 34) K fl_RX4_80 dX4_copy_34 (Nat.le_of_ble_eq_true rfl) rfl rfl ?_
      refine v_icmp_ge (pc := 37) (tgt := 82) K dX4_copy_37 (by decide) (fun c16 => ?_) (fun c16 => ?_)
      · have h := it c16 h
        have e := lx h hk
        exact v_fg [true, true, true, true, false, true] (hJ11 _ e.symm)
      · have h := ie c16 h
        refine v_aload0 (pc := 40) K dX4_copy_40 ?_
        refine v_iload2 (pc := 41) K dX4_copy_41 ?_
        refine v_iload4 (pc := 42) K dX4_copy_42 ?_
        refine v_iload3 (pc := 44) K dX4_copy_44 ?_
        obtain ⟨v17, h18, h⟩ := bd h
        refine v_cV3I (pc := 45)  K ca_yX4_hasUnder ml_RX4_170 (Nat.le_of_ble_eq_true rfl) rfl rfl (t_X4_hasUnder _ K.nt K.ad (sI σ 0 0 (0 : Int32)) a1 s9 a2 v17 h18) (Nat.le_of_ble_eq_true rfl) (by decide) (by decide) dX4_copy_45 ?_
        refine v_if_eq (pc := 48) (tgt := 76) K dX4_copy_48 (by decide) (fun c19 => ?_) (fun c19 => ?_)
        · have h := it c19 h
          refine v_iinc4 (pc := 76) (w := 1) K dX4_copy_76 rfl (Nat.le_of_ble_eq_true rfl) (by decide) ?_
          refine v_goto (pc := 79) (tgt := 31) K dX4_copy_79 (by decide) ?_
          have e := lfc h hk
          exact e
        · have h := ie c19 h
          refine v_aload0 (pc := 51) K dX4_copy_51 ?_
          refine v_iload1 (pc := 52) K dX4_copy_52 ?_
          refine v_aload0 (pc := 53) K dX4_copy_53 ?_
          refine v_getR (pc := 54) K fl_RX4_7 dX4_copy_54 (Nat.le_of_ble_eq_true rfl) rfl rfl ?_
          refine v_iload2 (pc := 57) K dX4_copy_57 ?_
          refine v_iload4 (pc := 58) K dX4_copy_58 ?_
          obtain ⟨v20, h21, h⟩ := bd h
          refine v_cS2I (pc := 60)  K ca_yX4_at ml_RX4_94 (t_X4_at _ K.nt K.ad (sI σ 0 0 (0 : Int32)) a1 s9 v20 h21) (Nat.le_of_ble_eq_true rfl) (by decide) (by decide) dX4_copy_60 ?_
          obtain ⟨j22, h23, h⟩ := bd h
          refine v_laload (pc := 63) K dX4_copy_63 (Nat.le_of_ble_eq_true rfl) rfl h23 ?_
          obtain ⟨v24, h25, h⟩ := bd h
          refine v_cV2I (pc := 64)  K ca_yX4_fits ml_RX4_116 (Nat.le_of_ble_eq_true rfl) rfl rfl (t_X4_fits _ K.nt K.ad (sI σ 0 0 (0 : Int32)) a0 ((sI σ 0 0 (0 : Int32)).2 1 j22) v24 h25) (Nat.le_of_ble_eq_true rfl) (by decide) (by decide) dX4_copy_64 ?_
          refine v_if_ne (pc := 67) (tgt := 76) K dX4_copy_67 (by decide) (fun c26 => ?_) (fun c26 => ?_)
          · have h := ie c26 h
            refine v_iinc4 (pc := 76) (w := 1) K dX4_copy_76 rfl (Nat.le_of_ble_eq_true rfl) (by decide) ?_
            refine v_goto (pc := 79) (tgt := 31) K dX4_copy_79 (by decide) ?_
            have e := lfc h hk
            exact e
          · have h := it c26 h
            refine v_aload0 (pc := 70) K dX4_copy_70 ?_
            refine v_ic2 (pc := 71) K dX4_copy_71 ?_
            obtain ⟨v27, h28, h⟩ := bd h
            refine v_cV1I (pc := 72)  K ca_yX4_tooGreat ml_RX4_120 (Nat.le_of_ble_eq_true rfl) rfl rfl (t_X4_tooGreat _ K.nt K.ad (sI σ 0 0 (0 : Int32)) (2 : Int32) v27 h28) (Nat.le_of_ble_eq_true rfl) (by decide) (by decide) dX4_copy_72 ?_
            have h := congrArg some (hq14 _ (lx h hk).symm)
            cases h
            exact v_iret (pc := 75) K dX4_copy_75 rfl rfl
    · have h := it c8 h
      refine v_aload0 (pc := 22) K dX4_copy_22 ?_
      refine v_ic1 (pc := 23) K dX4_copy_23 ?_
      obtain ⟨v66, h67, h⟩ := bd h
      refine v_cV1I (pc := 24)  K ca_yX4_fails ml_RX4_105 (Nat.le_of_ble_eq_true rfl) rfl rfl (t_X4_fails _ K.nt K.ad (sI σ 0 0 (0 : Int32)) (1 : Int32) v66 h67) (Nat.le_of_ble_eq_true rfl) (by decide) (by decide) dX4_copy_24 ?_
      cases h
      exact v_iret (pc := 27) K dX4_copy_27 rfl rfl
set_option maxRecDepth 100000 in
def m_X4_pick (σ : St) (a0 : Int32) (a1 : Int32) (a2 : Int32) (a3 : Int32) : Option (Int32 × St) :=
  ((m_X4_areIn (sI σ 0 0 (0 : Int32)) a0 a3).bind fun v1 => (if v1 = 0 then ((m_X4_fails (sI σ 0 0 (0 : Int32)) (1 : Int32)).bind fun v4 => some (v4.1, v4.2)) else ((m_X4_isColumn (sI σ 0 0 (0 : Int32)) a1).bind fun v6 => (if v6 = 0 then ((m_X4_fails (sI σ 0 0 (0 : Int32)) (1 : Int32)).bind fun v48 => some (v48.1, v48.2)) else ((m_X4_begins (sI σ 0 0 (0 : Int32))).bind fun v9 => ((lp 5000 (fun (s11 : Int32 × St) => (if s11.2.1 0 5 ≤ s11.1 then some (.inr s11.2) else ((m_X4_hasUnder s11.2 a0 s11.1 a3).bind fun v19 => ((if v19 = 0 then some s11.2 else ((m_X4_at s11.2 a1 s11.1).bind fun v25 => ((ix v25 1152).bind fun j27 => (if s11.2.1 2 j27 = 0 then some s11.2 else ((m_X4_at s11.2 a0 s11.1).bind fun v30 => ((ix v30 1152).bind fun j32 => ((m_X4_at s11.2 a1 s11.1).bind fun v34 => ((ix v34 1152).bind fun j36 => (if a2 = 0 then (if s11.2.2 1 j32 ≤ s11.2.2 1 j36 then some s11.2 else ((m_X4_lays s11.2 a0 s11.1 (s11.2.2 1 j36)).bind fun v40 => some v40)) else (if s11.2.2 1 j36 ≤ s11.2.2 1 j32 then some s11.2 else ((m_X4_lays s11.2 a0 s11.1 (s11.2.2 1 j36)).bind fun v43 => some v43))))))))))).bind fun (t21 : St) => some (.inl ((s11.1 + 1), t21)))))) ((0 : Int32), v9)).bind fun (r12 : St) => ((m_X4_done r12 a0 (2 : Int32)).bind fun v45 => some (v45.1, v45.2))))))))
set_option maxHeartbeats 4000000 in
set_option maxRecDepth 100000 in
theorem t_X4_pick (l : Launch) (hnt : l.stackTraces = false) {E : Ev} {base : Nat} (hE : Adr YM E base) (σ : St) (a0 : Int32) (a1 : Int32) (a2 : Int32) (a3 : Int32) (r : Int32 × St) (h : m_X4_pick σ a0 a1 a2 a3 = some r) : Ctr l yX4_pick cX4_pick 10 (some .int) 3 72 YM E base [.ref (E.2.2 0), .int a0, .int a1, .int a2, .int a3] σ (.ok (some (.int r.1))) r.2 := by
  unfold m_X4_pick at h
  refine ofV 5 (by decide +kernel) rfl hE hnt (Nat.le_of_ble_eq_true rfl) rfl (fun M hN K => ?_)
  refine v_aload0 (pc := 0) K dX4_pick_0 ?_
  refine v_ic0 (pc := 1) K dX4_pick_1 ?_
  refine v_put (pc := 2) K fw_RX4_69 dX4_pick_2 rfl rfl (Nat.le_of_ble_eq_true rfl) rfl rfl ?_
  refine v_aload0 (pc := 5) K dX4_pick_5 ?_
  refine v_iload1 (pc := 6) K dX4_pick_6 ?_
  refine v_iload4 (pc := 7) K dX4_pick_7 ?_
  obtain ⟨v1, h2, h⟩ := bd h
  refine v_cV2I (pc := 9)  K ca_yX4_areIn ml_RX4_164 (Nat.le_of_ble_eq_true rfl) rfl rfl (t_X4_areIn _ K.nt K.ad (sI σ 0 0 (0 : Int32)) a0 a3 v1 h2) (Nat.le_of_ble_eq_true rfl) (by decide) (by decide) dX4_pick_9 ?_
  refine v_if_eq (pc := 12) (tgt := 23) K dX4_pick_12 (by decide) (fun c3 => ?_) (fun c3 => ?_)
  · have h := it c3 h
    refine v_aload0 (pc := 23) K dX4_pick_23 ?_
    refine v_ic1 (pc := 24) K dX4_pick_24 ?_
    obtain ⟨v4, h5, h⟩ := bd h
    refine v_cV1I (pc := 25)  K ca_yX4_fails ml_RX4_105 (Nat.le_of_ble_eq_true rfl) rfl rfl (t_X4_fails _ K.nt K.ad (sI σ 0 0 (0 : Int32)) (1 : Int32) v4 h5) (Nat.le_of_ble_eq_true rfl) (by decide) (by decide) dX4_pick_25 ?_
    cases h
    exact v_iret (pc := 28) K dX4_pick_28 rfl rfl
  · have h := ie c3 h
    refine v_aload0 (pc := 15) K dX4_pick_15 ?_
    refine v_iload2 (pc := 16) K dX4_pick_16 ?_
    obtain ⟨v6, h7, h⟩ := bd h
    refine v_cV1I (pc := 17)  K ca_yX4_isColumn ml_RX4_87 (Nat.le_of_ble_eq_true rfl) rfl rfl (t_X4_isColumn _ K.nt K.ad (sI σ 0 0 (0 : Int32)) a1 v6 h7) (Nat.le_of_ble_eq_true rfl) (by decide) (by decide) dX4_pick_17 ?_
    refine v_if_ne (pc := 20) (tgt := 29) K dX4_pick_20 (by decide) (fun c8 => ?_) (fun c8 => ?_)
    · have h := ie c8 h
      refine v_aload0 (pc := 29) K dX4_pick_29 ?_
      obtain ⟨v9, h10, h⟩ := bd h
      refine v_cV0U (pc := 30)  K ca_yX4_begins ml_RX4_253 (Nat.le_of_ble_eq_true rfl) rfl rfl (t_X4_begins _ K.nt K.ad (sI σ 0 0 (0 : Int32)) v9 h10) (Nat.le_of_ble_eq_true rfl) (by decide) (by decide) dX4_pick_30 ?_
      refine v_ic0 (pc := 33) K dX4_pick_33 ?_
      refine v_istore5 (pc := 34) K dX4_pick_34 rfl (Nat.le_of_ble_eq_true rfl) ?_
      obtain ⟨r12, h14, h⟩ := bd h
      have hJ13 : V (mkX M YM E base 10 (.ok (some (.int r.1))) r.2) r12 138 [some (.ref (E.2.2 0)), some (.int a0), none, none, none, none, none, none, none, none] [] := by
        refine v_aload0 (pc := 138) K dX4_pick_138 ?_
        refine v_iload1 (pc := 139) K dX4_pick_139 ?_
        refine v_ic2 (pc := 140) K dX4_pick_140 ?_
        obtain ⟨v45, h46, h⟩ := bd h
        refine v_cV2I (pc := 141)  K ca_yX4_done ml_RX4_260 (Nat.le_of_ble_eq_true rfl) rfl rfl (t_X4_done _ K.nt K.ad r12 a0 (2 : Int32) v45 h46) (Nat.le_of_ble_eq_true rfl) (by decide) (by decide) dX4_pick_141 ?_
        cases h
        exact v_iret (pc := 144) K dX4_pick_144 rfl rfl
      clear h
      have hL47 := lpv h14 (fun s11 : Int32 × St => V (mkX M YM E base 10 (.ok (some (.int r.1))) r.2) s11.2 36 [some (.ref (E.2.2 0)), some (.int a0), some (.int a1), some (.int a2), some (.int a3), some (.int s11.1), none, none, none, none] [])
      refine hL47 (fun s11 o h hk => ?_)
      refine v_iload5 (pc := 36) K dX4_pick_36 ?_
      refine v_aload0 (pc := 38) K dX4_pick_38 ?_
      refine v_getI (pc := 39) K fl_RX4_80 dX4_pick_39 (Nat.le_of_ble_eq_true rfl) rfl rfl ?_
      refine v_icmp_ge (pc := 42) (tgt := 138) K dX4_pick_42 (by decide) (fun c18 => ?_) (fun c18 => ?_)
      · have h := it c18 h
        have e := lx h hk
        cases e
        exact v_fg [true, true, false, false, false, false, true, true, true, true] hJ13
      · have h := ie c18 h
        refine v_aload0 (pc := 45) K dX4_pick_45 ?_
        refine v_iload1 (pc := 46) K dX4_pick_46 ?_
        refine v_iload5 (pc := 47) K dX4_pick_47 ?_
        refine v_iload4 (pc := 49) K dX4_pick_49 ?_
        obtain ⟨v19, h20, h⟩ := bd h
        refine v_cV3I (pc := 51)  K ca_yX4_hasUnder ml_RX4_170 (Nat.le_of_ble_eq_true rfl) rfl rfl (t_X4_hasUnder _ K.nt K.ad s11.2 a0 s11.1 a3 v19 h20) (Nat.le_of_ble_eq_true rfl) (by decide) (by decide) dX4_pick_51 ?_
        obtain ⟨t21, h23, h⟩ := bd h
        have hJ22 : V (mkX M YM E base 10 (.ok (some (.int r.1))) r.2) t21 132 [some (.ref (E.2.2 0)), some (.int a0), some (.int a1), some (.int a2), some (.int a3), some (.int s11.1), none, none, none, none] [] := by
          refine v_iinc5 (pc := 132) (w := 1) K dX4_pick_132 rfl (Nat.le_of_ble_eq_true rfl) (by decide) ?_
          refine v_goto (pc := 135) (tgt := 36) K dX4_pick_135 (by decide) ?_
          have e := lfc h hk
          exact e
        clear h
        have h := h23
        refine v_if_eq (pc := 54) (tgt := 132) K dX4_pick_54 (by decide) (fun c24 => ?_) (fun c24 => ?_)
        · have h := it c24 h
          cases h
          exact hJ22
        · have h := ie c24 h
          refine v_aload0 (pc := 57) K dX4_pick_57 ?_
          refine v_getR (pc := 58) K fl_RX4_13 dX4_pick_58 (Nat.le_of_ble_eq_true rfl) rfl rfl ?_
          refine v_iload2 (pc := 61) K dX4_pick_61 ?_
          refine v_iload5 (pc := 62) K dX4_pick_62 ?_
          obtain ⟨v25, h26, h⟩ := bd h
          refine v_cS2I (pc := 64)  K ca_yX4_at ml_RX4_94 (t_X4_at _ K.nt K.ad s11.2 a1 s11.1 v25 h26) (Nat.le_of_ble_eq_true rfl) (by decide) (by decide) dX4_pick_64 ?_
          obtain ⟨j27, h28, h⟩ := bd h
          refine v_zaload (pc := 67) K dX4_pick_67 (Nat.le_of_ble_eq_true rfl) rfl h28 ?_
          refine v_if_ne (pc := 68) (tgt := 74) K dX4_pick_68 (by decide) (fun c29 => ?_) (fun c29 => ?_)
          · have h := ie c29 h
            refine v_aload0 (pc := 74) K dX4_pick_74 ?_
            refine v_getR (pc := 75) K fl_RX4_7 dX4_pick_75 (Nat.le_of_ble_eq_true rfl) rfl rfl ?_
            refine v_iload1 (pc := 78) K dX4_pick_78 ?_
            refine v_iload5 (pc := 79) K dX4_pick_79 ?_
            obtain ⟨v30, h31, h⟩ := bd h
            refine v_cS2I (pc := 81)  K ca_yX4_at ml_RX4_94 (t_X4_at _ K.nt K.ad s11.2 a0 s11.1 v30 h31) (Nat.le_of_ble_eq_true rfl) (by decide) (by decide) dX4_pick_81 ?_
            obtain ⟨j32, h33, h⟩ := bd h
            refine v_laload (pc := 84) K dX4_pick_84 (Nat.le_of_ble_eq_true rfl) rfl h33 ?_
            refine v_lstore6 (pc := 85) K dX4_pick_85 rfl (Nat.le_of_ble_eq_true rfl) ?_
            refine v_aload0 (pc := 87) K dX4_pick_87 ?_
            refine v_getR (pc := 88) K fl_RX4_7 dX4_pick_88 (Nat.le_of_ble_eq_true rfl) rfl rfl ?_
            refine v_iload2 (pc := 91) K dX4_pick_91 ?_
            refine v_iload5 (pc := 92) K dX4_pick_92 ?_
            obtain ⟨v34, h35, h⟩ := bd h
            refine v_cS2I (pc := 94)  K ca_yX4_at ml_RX4_94 (t_X4_at _ K.nt K.ad s11.2 a1 s11.1 v34 h35) (Nat.le_of_ble_eq_true rfl) (by decide) (by decide) dX4_pick_94 ?_
            obtain ⟨j36, h37, h⟩ := bd h
            refine v_laload (pc := 97) K dX4_pick_97 (Nat.le_of_ble_eq_true rfl) rfl h37 ?_
            refine v_lstore8 (pc := 98) K dX4_pick_98 rfl (Nat.le_of_ble_eq_true rfl) ?_
            refine v_iload3 (pc := 100) K dX4_pick_100 ?_
            refine v_if_eq (pc := 101) (tgt := 115) K dX4_pick_101 (by decide) (fun c38 => ?_) (fun c38 => ?_)
            · have h := it c38 h
              refine v_lload8 (pc := 115) K dX4_pick_115 ?_
              refine v_lload6 (pc := 117) K dX4_pick_117 ?_
              refine v_lc_ge (pc := 119) (tgt := 132) K dX4_pick_119 dX4_pick_120 (by decide) (fun c39 => ?_) (fun c39 => ?_)
              · have h := it c39 h
                cases h
                exact (v_fg [true, true, true, true, true, true, false, true, false, true] hJ22)
              · have h := ie c39 h
                refine v_aload0 (pc := 123) K dX4_pick_123 ?_
                refine v_iload1 (pc := 124) K dX4_pick_124 ?_
                refine v_iload5 (pc := 125) K dX4_pick_125 ?_
                refine v_lload8 (pc := 127) K dX4_pick_127 ?_
                obtain ⟨v40, h41, h⟩ := bd h
                refine v_cV3U (pc := 129)  K ca_yX4_lays ml_RX4_256 (Nat.le_of_ble_eq_true rfl) rfl rfl (t_X4_lays _ K.nt K.ad s11.2 a0 s11.1 (s11.2.2 1 j36) v40 h41) (Nat.le_of_ble_eq_true rfl) (by decide) (by decide) dX4_pick_129 ?_
                cases h
                exact (v_fg [true, true, true, true, true, true, false, true, false, true] hJ22)
            · have h := ie c38 h
              refine v_lload8 (pc := 104) K dX4_pick_104 ?_
              refine v_lload6 (pc := 106) K dX4_pick_106 ?_
              refine v_lc_le (pc := 108) (tgt := 132) K dX4_pick_108 dX4_pick_109 (by decide) (fun c42 => ?_) (fun c42 => ?_)
              · have h := it c42 h
                cases h
                exact (v_fg [true, true, true, true, true, true, false, true, false, true] hJ22)
              · have h := ie c42 h
                refine v_goto (pc := 112) (tgt := 123) K dX4_pick_112 (by decide) ?_
                refine v_aload0 (pc := 123) K dX4_pick_123 ?_
                refine v_iload1 (pc := 124) K dX4_pick_124 ?_
                refine v_iload5 (pc := 125) K dX4_pick_125 ?_
                refine v_lload8 (pc := 127) K dX4_pick_127 ?_
                obtain ⟨v43, h44, h⟩ := bd h
                refine v_cV3U (pc := 129)  K ca_yX4_lays ml_RX4_256 (Nat.le_of_ble_eq_true rfl) rfl rfl (t_X4_lays _ K.nt K.ad s11.2 a0 s11.1 (s11.2.2 1 j36) v43 h44) (Nat.le_of_ble_eq_true rfl) (by decide) (by decide) dX4_pick_129 ?_
                cases h
                exact (v_fg [true, true, true, true, true, true, false, true, false, true] hJ22)
          · have h := it c29 h
            refine v_goto (pc := 71) (tgt := 132) K dX4_pick_71 (by decide) ?_
            cases h
            exact hJ22
    · have h := it c8 h
      refine v_aload0 (pc := 23) K dX4_pick_23 ?_
      refine v_ic1 (pc := 24) K dX4_pick_24 ?_
      obtain ⟨v48, h49, h⟩ := bd h
      refine v_cV1I (pc := 25)  K ca_yX4_fails ml_RX4_105 (Nat.le_of_ble_eq_true rfl) rfl rfl (t_X4_fails _ K.nt K.ad (sI σ 0 0 (0 : Int32)) (1 : Int32) v48 h49) (Nat.le_of_ble_eq_true rfl) (by decide) (by decide) dX4_pick_25 ?_
      cases h
      exact v_iret (pc := 28) K dX4_pick_28 rfl rfl
set_option maxRecDepth 100000 in
def m_X4_wipe (σ : St) (a0 : Int32) (a1 : Int32) : Option (Int32 × St) :=
  ((m_X4_areIn (sI σ 0 0 (0 : Int32)) a0 a1).bind fun v1 => (if v1 = 0 then ((m_X4_fails (sI σ 0 0 (0 : Int32)) (1 : Int32)).bind fun v23 => some (v23.1, v23.2)) else ((lp 5000 (fun (s4 : Int32 × Int32 × St) => (if s4.2.2.1 0 5 ≤ s4.2.1 then some (.inr (s4.1, s4.2.2)) else ((m_X4_hasUnder s4.2.2 a0 s4.2.1 a1).bind fun v12 => ((if v12 = 0 then some (s4.1, s4.2.2) else ((m_X4_at s4.2.2 a0 s4.2.1).bind fun v18 => ((ix v18 1152).bind fun j20 => some ((s4.1 + 1), (sI s4.2.2 2 j20 (nz (0 : Int32))))))).bind fun (t14 : Int32 × St) => some (.inl (t14.1, (s4.2.1 + 1), t14.2)))))) ((0 : Int32), (0 : Int32), (sI σ 0 0 (0 : Int32)))).bind fun (r5 : Int32 × St) => some (r5.1, r5.2))))
set_option maxHeartbeats 4000000 in
set_option maxRecDepth 100000 in
theorem t_X4_wipe (l : Launch) (hnt : l.stackTraces = false) {E : Ev} {base : Nat} (hE : Adr YM E base) (σ : St) (a0 : Int32) (a1 : Int32) (r : Int32 × St) (h : m_X4_wipe σ a0 a1 = some r) : Ctr l yX4_wipe cX4_wipe 5 (some .int) 3 68 YM E base [.ref (E.2.2 0), .int a0, .int a1] σ (.ok (some (.int r.1))) r.2 := by
  unfold m_X4_wipe at h
  refine ofV 2 (by decide +kernel) rfl hE hnt (Nat.le_of_ble_eq_true rfl) rfl (fun M hN K => ?_)
  refine v_aload0 (pc := 0) K dX4_wipe_0 ?_
  refine v_ic0 (pc := 1) K dX4_wipe_1 ?_
  refine v_put (pc := 2) K fw_RX4_69 dX4_wipe_2 rfl rfl (Nat.le_of_ble_eq_true rfl) rfl rfl ?_
  refine v_aload0 (pc := 5) K dX4_wipe_5 ?_
  refine v_iload1 (pc := 6) K dX4_wipe_6 ?_
  refine v_iload2 (pc := 7) K dX4_wipe_7 ?_
  obtain ⟨v1, h2, h⟩ := bd h
  refine v_cV2I (pc := 8)  K ca_yX4_areIn ml_RX4_164 (Nat.le_of_ble_eq_true rfl) rfl rfl (t_X4_areIn _ K.nt K.ad (sI σ 0 0 (0 : Int32)) a0 a1 v1 h2) (Nat.le_of_ble_eq_true rfl) (by decide) (by decide) dX4_wipe_8 ?_
  refine v_if_ne (pc := 11) (tgt := 20) K dX4_wipe_11 (by decide) (fun c3 => ?_) (fun c3 => ?_)
  · have h := ie c3 h
    refine v_ic0 (pc := 20) K dX4_wipe_20 ?_
    refine v_istore3 (pc := 21) K dX4_wipe_21 rfl (Nat.le_of_ble_eq_true rfl) ?_
    refine v_ic0 (pc := 22) K dX4_wipe_22 ?_
    refine v_istore4 (pc := 23) K dX4_wipe_23 rfl (Nat.le_of_ble_eq_true rfl) ?_
    obtain ⟨r5, h7, h⟩ := bd h
    have hJ6 : V (mkX M YM E base 5 (.ok (some (.int r.1))) r.2) r5.2 69 [none, none, none, some (.int r5.1), none] [] := by
      refine v_iload3 (pc := 69) K dX4_wipe_69 ?_
      cases h
      exact v_iret (pc := 70) K dX4_wipe_70 rfl rfl
    clear h
    have hL22 := lpv h7 (fun s4 : Int32 × Int32 × St => V (mkX M YM E base 5 (.ok (some (.int r.1))) r.2) s4.2.2 25 [some (.ref (E.2.2 0)), some (.int a0), some (.int a1), some (.int s4.1), some (.int s4.2.1)] [])
    refine hL22 (fun s4 o h hk => ?_)
    refine v_iload4 (pc := 25) K dX4_wipe_25 ?_
    refine v_aload0 (pc := 27) K dX4_wipe_27 ?_
    refine v_getI (pc := 28) K fl_RX4_80 dX4_wipe_28 (Nat.le_of_ble_eq_true rfl) rfl rfl ?_
    refine v_icmp_ge (pc := 31) (tgt := 69) K dX4_wipe_31 (by decide) (fun c11 => ?_) (fun c11 => ?_)
    · have h := it c11 h
      have e := lx h hk
      cases e
      exact v_fg [false, false, false, true, false] hJ6
    · have h := ie c11 h
      refine v_aload0 (pc := 34) K dX4_wipe_34 ?_
      refine v_iload1 (pc := 35) K dX4_wipe_35 ?_
      refine v_iload4 (pc := 36) K dX4_wipe_36 ?_
      refine v_iload2 (pc := 38) K dX4_wipe_38 ?_
      obtain ⟨v12, h13, h⟩ := bd h
      refine v_cV3I (pc := 39)  K ca_yX4_hasUnder ml_RX4_170 (Nat.le_of_ble_eq_true rfl) rfl rfl (t_X4_hasUnder _ K.nt K.ad s4.2.2 a0 s4.2.1 a1 v12 h13) (Nat.le_of_ble_eq_true rfl) (by decide) (by decide) dX4_wipe_39 ?_
      obtain ⟨t14, h16, h⟩ := bd h
      have hJ15 : V (mkX M YM E base 5 (.ok (some (.int r.1))) r.2) t14.2 63 [some (.ref (E.2.2 0)), some (.int a0), some (.int a1), some (.int t14.1), some (.int s4.2.1)] [] := by
        refine v_iinc4 (pc := 63) (w := 1) K dX4_wipe_63 rfl (Nat.le_of_ble_eq_true rfl) (by decide) ?_
        refine v_goto (pc := 66) (tgt := 25) K dX4_wipe_66 (by decide) ?_
        have e := lfc h hk
        exact e
      clear h
      have h := h16
      refine v_if_ne (pc := 42) (tgt := 48) K dX4_wipe_42 (by decide) (fun c17 => ?_) (fun c17 => ?_)
      · have h := ie c17 h
        refine v_aload0 (pc := 48) K dX4_wipe_48 ?_
        refine v_getR (pc := 49) K fl_RX4_13 dX4_wipe_49 (Nat.le_of_ble_eq_true rfl) rfl rfl ?_
        refine v_iload1 (pc := 52) K dX4_wipe_52 ?_
        refine v_iload4 (pc := 53) K dX4_wipe_53 ?_
        obtain ⟨v18, h19, h⟩ := bd h
        refine v_cS2I (pc := 55)  K ca_yX4_at ml_RX4_94 (t_X4_at _ K.nt K.ad s4.2.2 a0 s4.2.1 v18 h19) (Nat.le_of_ble_eq_true rfl) (by decide) (by decide) dX4_wipe_55 ?_
        refine v_ic0 (pc := 58) K dX4_wipe_58 ?_
        obtain ⟨j20, h21, h⟩ := bd h
        refine v_zastore (pc := 59) K dX4_wipe_59 (Nat.le_of_ble_eq_true rfl) rfl h21 ?_
        refine v_iinc3 (pc := 60) (w := 1) K dX4_wipe_60 rfl (Nat.le_of_ble_eq_true rfl) (by decide) ?_
        cases h
        exact hJ15
      · have h := it c17 h
        refine v_goto (pc := 45) (tgt := 63) K dX4_wipe_45 (by decide) ?_
        cases h
        exact hJ15
  · have h := it c3 h
    refine v_aload0 (pc := 14) K dX4_wipe_14 ?_
    refine v_ic1 (pc := 15) K dX4_wipe_15 ?_
    obtain ⟨v23, h24, h⟩ := bd h
    refine v_cV1I (pc := 16)  K ca_yX4_fails ml_RX4_105 (Nat.le_of_ble_eq_true rfl) rfl rfl (t_X4_fails _ K.nt K.ad (sI σ 0 0 (0 : Int32)) (1 : Int32) v23 h24) (Nat.le_of_ble_eq_true rfl) (by decide) (by decide) dX4_wipe_16 ?_
    cases h
    exact v_iret (pc := 19) K dX4_wipe_19 rfl rfl
set_option maxRecDepth 100000 in
def m_X4_widen (σ : St) (a0 : Int32) (a1 : Int32) : Option (Int32 × St) :=
  ((m_X4_isColumn (sI σ 0 0 (0 : Int32)) a0).bind fun v1 => (if v1 = 0 then ((m_X4_fails (sI σ 0 0 (0 : Int32)) (1 : Int32)).bind fun v18 => some (v18.1, v18.2)) else ((m_X4_isIn (sI σ 0 0 (0 : Int32)) ((a1).toInt64) (2 : Int64) (63 : Int64)).bind fun v4 => (if v4 = 0 then ((m_X4_fails (sI σ 0 0 (0 : Int32)) (2 : Int32)).bind fun v16 => some (v16.1, v16.2)) else ((m_X4_leastWidth (sI σ 0 0 (0 : Int32)) a0).bind fun v7 => (if v7 ≤ a1 then ((ix a0 6).bind fun j10 => ((ix a0 6).bind fun j12 => some ((sI σ 0 0 (0 : Int32)).1 3 j10, (sI (sI σ 0 0 (0 : Int32)) 3 j12 a1)))) else ((m_X4_tooGreat (sI σ 0 0 (0 : Int32)) (3 : Int32)).bind fun v14 => some (v14.1, v14.2))))))))
set_option maxHeartbeats 4000000 in
set_option maxRecDepth 100000 in
theorem t_X4_widen (l : Launch) (hnt : l.stackTraces = false) {E : Ev} {base : Nat} (hE : Adr YM E base) (σ : St) (a0 : Int32) (a1 : Int32) (r : Int32 × St) (h : m_X4_widen σ a0 a1 = some r) : Ctr l yX4_widen cX4_widen 4 (some .int) 3 70 YM E base [.ref (E.2.2 0), .int a0, .int a1] σ (.ok (some (.int r.1))) r.2 := by
  unfold m_X4_widen at h
  refine ofV 1 (by decide +kernel) rfl hE hnt (Nat.le_of_ble_eq_true rfl) rfl (fun M hN K => ?_)
  refine v_aload0 (pc := 0) K dX4_widen_0 ?_
  refine v_ic0 (pc := 1) K dX4_widen_1 ?_
  refine v_put (pc := 2) K fw_RX4_69 dX4_widen_2 rfl rfl (Nat.le_of_ble_eq_true rfl) rfl rfl ?_
  refine v_aload0 (pc := 5) K dX4_widen_5 ?_
  refine v_iload1 (pc := 6) K dX4_widen_6 ?_
  obtain ⟨v1, h2, h⟩ := bd h
  refine v_cV1I (pc := 7)  K ca_yX4_isColumn ml_RX4_87 (Nat.le_of_ble_eq_true rfl) rfl rfl (t_X4_isColumn _ K.nt K.ad (sI σ 0 0 (0 : Int32)) a0 v1 h2) (Nat.le_of_ble_eq_true rfl) (by decide) (by decide) dX4_widen_7 ?_
  refine v_if_ne (pc := 10) (tgt := 19) K dX4_widen_10 (by decide) (fun c3 => ?_) (fun c3 => ?_)
  · have h := ie c3 h
    refine v_iload2 (pc := 19) K dX4_widen_19 ?_
    refine v_i2l (pc := 20) K dX4_widen_20 ?_
    refine v_ldc2 (pc := 21) K dX4_widen_21 cl_RX4_85 ?_
    refine v_ldc2 (pc := 24) K dX4_widen_24 cl_RX4_109 ?_
    obtain ⟨v4, h5, h⟩ := bd h
    refine v_cS3I (pc := 27)  K ca_yX4_isIn ml_RX4_76 (t_X4_isIn _ K.nt K.ad (sI σ 0 0 (0 : Int32)) ((a1).toInt64) (2 : Int64) (63 : Int64) v4 h5) (Nat.le_of_ble_eq_true rfl) (by decide) (by decide) dX4_widen_27 ?_
    refine v_if_ne (pc := 30) (tgt := 39) K dX4_widen_30 (by decide) (fun c6 => ?_) (fun c6 => ?_)
    · have h := ie c6 h
      refine v_aload0 (pc := 39) K dX4_widen_39 ?_
      refine v_iload1 (pc := 40) K dX4_widen_40 ?_
      obtain ⟨v7, h8, h⟩ := bd h
      refine v_cV1I (pc := 41)  K ca_yX4_leastWidth ml_RX4_149 (Nat.le_of_ble_eq_true rfl) rfl rfl (t_X4_leastWidth _ K.nt K.ad (sI σ 0 0 (0 : Int32)) a0 v7 h8) (Nat.le_of_ble_eq_true rfl) (by decide) (by decide) dX4_widen_41 ?_
      refine v_iload2 (pc := 44) K dX4_widen_44 ?_
      refine v_icmp_le (pc := 45) (tgt := 54) K dX4_widen_45 (by decide) (fun c9 => ?_) (fun c9 => ?_)
      · have h := it c9 h
        refine v_aload0 (pc := 54) K dX4_widen_54 ?_
        refine v_getR (pc := 55) K fl_RX4_17 dX4_widen_55 (Nat.le_of_ble_eq_true rfl) rfl rfl ?_
        refine v_iload1 (pc := 58) K dX4_widen_58 ?_
        obtain ⟨j10, h11, h⟩ := bd h
        refine v_iaload (pc := 59) K dX4_widen_59 (Nat.le_of_ble_eq_true rfl) rfl h11 ?_
        refine v_istore3 (pc := 60) K dX4_widen_60 rfl (Nat.le_of_ble_eq_true rfl) ?_
        refine v_aload0 (pc := 61) K dX4_widen_61 ?_
        refine v_getR (pc := 62) K fl_RX4_17 dX4_widen_62 (Nat.le_of_ble_eq_true rfl) rfl rfl ?_
        refine v_iload1 (pc := 65) K dX4_widen_65 ?_
        refine v_iload2 (pc := 66) K dX4_widen_66 ?_
        obtain ⟨j12, h13, h⟩ := bd h
        refine v_iastore (pc := 67) K dX4_widen_67 (Nat.le_of_ble_eq_true rfl) rfl h13 ?_
        refine v_iload3 (pc := 68) K dX4_widen_68 ?_
        cases h
        exact v_iret (pc := 69) K dX4_widen_69 rfl rfl
      · have h := ie c9 h
        refine v_aload0 (pc := 48) K dX4_widen_48 ?_
        refine v_ic3 (pc := 49) K dX4_widen_49 ?_
        obtain ⟨v14, h15, h⟩ := bd h
        refine v_cV1I (pc := 50)  K ca_yX4_tooGreat ml_RX4_120 (Nat.le_of_ble_eq_true rfl) rfl rfl (t_X4_tooGreat _ K.nt K.ad (sI σ 0 0 (0 : Int32)) (3 : Int32) v14 h15) (Nat.le_of_ble_eq_true rfl) (by decide) (by decide) dX4_widen_50 ?_
        cases h
        exact v_iret (pc := 53) K dX4_widen_53 rfl rfl
    · have h := it c6 h
      refine v_aload0 (pc := 33) K dX4_widen_33 ?_
      refine v_ic2 (pc := 34) K dX4_widen_34 ?_
      obtain ⟨v16, h17, h⟩ := bd h
      refine v_cV1I (pc := 35)  K ca_yX4_fails ml_RX4_105 (Nat.le_of_ble_eq_true rfl) rfl rfl (t_X4_fails _ K.nt K.ad (sI σ 0 0 (0 : Int32)) (2 : Int32) v16 h17) (Nat.le_of_ble_eq_true rfl) (by decide) (by decide) dX4_widen_35 ?_
      cases h
      exact v_iret (pc := 38) K dX4_widen_38 rfl rfl
  · have h := it c3 h
    refine v_aload0 (pc := 13) K dX4_widen_13 ?_
    refine v_ic1 (pc := 14) K dX4_widen_14 ?_
    obtain ⟨v18, h19, h⟩ := bd h
    refine v_cV1I (pc := 15)  K ca_yX4_fails ml_RX4_105 (Nat.le_of_ble_eq_true rfl) rfl rfl (t_X4_fails _ K.nt K.ad (sI σ 0 0 (0 : Int32)) (1 : Int32) v18 h19) (Nat.le_of_ble_eq_true rfl) (by decide) (by decide) dX4_widen_15 ?_
    cases h
    exact v_iret (pc := 18) K dX4_widen_18 rfl rfl
set_option maxRecDepth 100000 in
def m_X4_orders (σ : St) (a0 : Int32) : Option (St) :=
  ((ix (σ.1 0 16) 192).bind fun j1 => some (sI (sI σ 10 j1 a0) 0 16 ((sI σ 10 j1 a0).1 0 16 + (1 : Int32))))
set_option maxHeartbeats 4000000 in
set_option maxRecDepth 100000 in
theorem t_X4_orders (l : Launch) (hnt : l.stackTraces = false) {E : Ev} {base : Nat} (hE : Adr YM E base) (σ : St) (a0 : Int32) (r : St) (h : m_X4_orders σ a0 = some r) : Ctr l yX4_orders cX4_orders 2 none 0 0 YM E base [.ref (E.2.2 0), .int a0] σ (.ok none) r := by
  unfold m_X4_orders at h
  refine ofV 0 (by decide +kernel) rfl hE hnt (Nat.le_of_ble_eq_true rfl) rfl (fun M hN K => ?_)
  refine v_aload0 (pc := 0) K dX4_orders_0 ?_
  refine v_getR (pc := 1) K fl_RX4_39 dX4_orders_1 (Nat.le_of_ble_eq_true rfl) rfl rfl ?_
  refine v_aload0 (pc := 4) K dX4_orders_4 ?_
  refine v_getI (pc := 5) K fl_RX4_276 dX4_orders_5 (Nat.le_of_ble_eq_true rfl) rfl rfl ?_
  refine v_iload1 (pc := 8) K dX4_orders_8 ?_
  obtain ⟨j1, h2, h⟩ := bd h
  refine v_iastore (pc := 9) K dX4_orders_9 (Nat.le_of_ble_eq_true rfl) rfl h2 ?_
  refine v_aload0 (pc := 10) K dX4_orders_10 ?_
  refine v_dupR (pc := 11) K dX4_orders_11 ?_
  refine v_getI (pc := 12) K fl_RX4_276 dX4_orders_12 (Nat.le_of_ble_eq_true rfl) rfl rfl ?_
  refine v_ic1 (pc := 15) K dX4_orders_15 ?_
  refine v_iadd (pc := 16) K dX4_orders_16 ?_
  refine v_put (pc := 17) K fw_RX4_276 dX4_orders_17 rfl rfl (Nat.le_of_ble_eq_true rfl) rfl rfl ?_
  cases h
  exact v_vret (pc := 20) K dX4_orders_20 rfl rfl
set_option maxRecDepth 100000 in
def m_X4_ordersThose (σ : St) (a0 : Int32) (a1 : Int32) : Option (St) :=
  ((lp 5000 (fun (s1 : Int32 × St) => (if s1.2.1 0 5 ≤ s1.1 then some (.inr s1.2) else ((m_X4_at s1.2 a0 s1.1).bind fun v9 => ((ix v9 1536).bind fun j11 => ((if s1.2.1 4 j11 = a1 then ((m_X4_orders s1.2 s1.1).bind fun v17 => some v17) else some s1.2).bind fun (t13 : St) => some (.inl ((s1.1 + 1), t13))))))) ((0 : Int32), σ)).bind fun (r2 : St) => some r2)
set_option maxHeartbeats 4000000 in
set_option maxRecDepth 100000 in
theorem t_X4_ordersThose (l : Launch) (hnt : l.stackTraces = false) {E : Ev} {base : Nat} (hE : Adr YM E base) (σ : St) (a0 : Int32) (a1 : Int32) (r : St) (h : m_X4_ordersThose σ a0 a1 = some r) : Ctr l yX4_ordersThose cX4_ordersThose 4 none 1 21 YM E base [.ref (E.2.2 0), .int a0, .int a1] σ (.ok none) r := by
  unfold m_X4_ordersThose at h
  refine ofV 1 (by decide +kernel) rfl hE hnt (Nat.le_of_ble_eq_true rfl) rfl (fun M hN K => ?_)
  refine v_ic0 (pc := 0) K dX4_ordersThose_0 ?_
  refine v_istore3 (pc := 1) K dX4_ordersThose_1 rfl (Nat.le_of_ble_eq_true rfl) ?_
  obtain ⟨r2, h4, h⟩ := bd h
  have hJ3 : V (mkX M YM E base 4 (.ok none) r) r2 35 [none, none, none, none] [] := by
    cases h
    exact v_vret (pc := 35) K dX4_ordersThose_35 rfl rfl
  clear h
  have hL19 := lpv h4 (fun s1 : Int32 × St => V (mkX M YM E base 4 (.ok none) r) s1.2 2 [some (.ref (E.2.2 0)), some (.int a0), some (.int a1), some (.int s1.1)] [])
  refine hL19 (fun s1 o h hk => ?_)
  refine v_iload3 (pc := 2) K dX4_ordersThose_2 ?_
  refine v_aload0 (pc := 3) K dX4_ordersThose_3 ?_
  refine v_getI (pc := 4) K fl_RX4_80 dX4_ordersThose_4 (Nat.le_of_ble_eq_true rfl) rfl rfl ?_
  refine v_icmp_ge (pc := 7) (tgt := 35) K dX4_ordersThose_7 (by decide) (fun c8 => ?_) (fun c8 => ?_)
  · have h := it c8 h
    have e := lx h hk
    cases e
    exact v_fg [false, false, false, false] hJ3
  · have h := ie c8 h
    refine v_aload0 (pc := 10) K dX4_ordersThose_10 ?_
    refine v_getR (pc := 11) K fl_RX4_21 dX4_ordersThose_11 (Nat.le_of_ble_eq_true rfl) rfl rfl ?_
    refine v_iload1 (pc := 14) K dX4_ordersThose_14 ?_
    refine v_iload3 (pc := 15) K dX4_ordersThose_15 ?_
    obtain ⟨v9, h10, h⟩ := bd h
    refine v_cS2I (pc := 16)  K ca_yX4_at ml_RX4_94 (t_X4_at _ K.nt K.ad s1.2 a0 s1.1 v9 h10) (Nat.le_of_ble_eq_true rfl) (by decide) (by decide) dX4_ordersThose_16 ?_
    obtain ⟨j11, h12, h⟩ := bd h
    refine v_zaload (pc := 19) K dX4_ordersThose_19 (Nat.le_of_ble_eq_true rfl) rfl h12 ?_
    refine v_iload2 (pc := 20) K dX4_ordersThose_20 ?_
    obtain ⟨t13, h15, h⟩ := bd h
    have hJ14 : V (mkX M YM E base 4 (.ok none) r) t13 29 [some (.ref (E.2.2 0)), some (.int a0), some (.int a1), some (.int s1.1)] [] := by
      refine v_iinc3 (pc := 29) (w := 1) K dX4_ordersThose_29 rfl (Nat.le_of_ble_eq_true rfl) (by decide) ?_
      refine v_goto (pc := 32) (tgt := 2) K dX4_ordersThose_32 (by decide) ?_
      have e := lfc h hk
      exact e
    clear h
    have h := h15
    refine v_icmp_ne (pc := 21) (tgt := 29) K dX4_ordersThose_21 (by decide) (fun c16 => ?_) (fun c16 => ?_)
    · have h := ie c16 h
      cases h
      exact hJ14
    · have h := it c16 h
      refine v_aload0 (pc := 24) K dX4_ordersThose_24 ?_
      refine v_iload3 (pc := 25) K dX4_ordersThose_25 ?_
      obtain ⟨v17, h18, h⟩ := bd h
      refine v_cV1U (pc := 26)  K ca_yX4_orders ml_RX4_279 (Nat.le_of_ble_eq_true rfl) rfl rfl (t_X4_orders _ K.nt K.ad s1.2 s1.1 v17 h18) (Nat.le_of_ble_eq_true rfl) (by decide) (by decide) dX4_ordersThose_26 ?_
      cases h
      exact hJ14
set_option maxRecDepth 100000 in
def m_X4_puts (σ : St) : Option (Int32 × St) :=
  ((lp 5000 (fun (s1 : Int32 × St) => (if s1.2.1 0 6 ≤ s1.1 then some (.inr s1.2) else ((lp 5000 (fun (s9 : Int32 × St) => (if s9.2.1 0 16 ≤ s9.1 then some (.inr s9.2) else ((ix s9.1 192).bind fun j17 => ((m_X4_at s9.2 s1.1 (s9.2.1 10 j17)).bind fun v19 => ((ix v19 1152).bind fun j21 => ((ix s9.1 192).bind fun j23 => ((ix s9.1 192).bind fun j25 => ((m_X4_at (sL s9.2 11 j23 (s9.2.2 1 j21)) s1.1 ((sL s9.2 11 j23 (s9.2.2 1 j21)).1 10 j25)).bind fun v27 => ((ix v27 1152).bind fun j29 => ((ix s9.1 192).bind fun j31 => some (.inl ((s9.1 + 1), (sI (sL s9.2 11 j23 (s9.2.2 1 j21)) 12 j31 (nz ((sL s9.2 11 j23 (s9.2.2 1 j21)).1 2 j29))))))))))))))) ((0 : Int32), s1.2)).bind fun (r10 : St) => ((lp 5000 (fun (s33 : Int32 × St) => (if (192 : Int32) ≤ s33.1 then some (.inr s33.2) else ((m_X4_at s33.2 s1.1 s33.1).bind fun v41 => ((if s33.2.1 0 16 ≤ s33.1 then some (0 : Int32) else ((ix s33.1 192).bind fun j47 => (if s33.2.1 12 j47 = 0 then some (0 : Int32) else some (1 : Int32)))).bind fun (t43 : Int32) => ((ix v41 1152).bind fun j50 => ((m_X4_at (sI s33.2 2 j50 (nz t43)) s1.1 s33.1).bind fun v52 => ((if (sI s33.2 2 j50 (nz t43)).1 0 16 ≤ s33.1 then some (0 : Int64) else ((ix s33.1 192).bind fun j58 => some ((sI s33.2 2 j50 (nz t43)).2 11 j58))).bind fun (t54 : Int64) => ((ix v52 1152).bind fun j60 => some (.inl ((s33.1 + 1), (sL (sI s33.2 2 j50 (nz t43)) 1 j60 t54))))))))))) ((0 : Int32), r10)).bind fun (r34 : St) => some (.inl ((s1.1 + 1), r34)))))) ((0 : Int32), σ)).bind fun (r2 : St) => ((lp 5000 (fun (s64 : Int32 × St) => (if (8 : Int32) ≤ s64.1 then some (.inr s64.2) else ((lp 5000 (fun (s72 : Int32 × St) => (if s72.2.1 0 16 ≤ s72.1 then some (.inr s72.2) else ((ix s72.1 192).bind fun j80 => ((m_X4_at s72.2 s64.1 (s72.2.1 10 j80)).bind fun v82 => ((ix v82 1536).bind fun j84 => ((ix s72.1 192).bind fun j86 => some (.inl ((s72.1 + 1), (sI s72.2 12 j86 (nz (s72.2.1 4 j84))))))))))) ((0 : Int32), s64.2)).bind fun (r73 : St) => ((lp 5000 (fun (s88 : Int32 × St) => (if (192 : Int32) ≤ s88.1 then some (.inr s88.2) else ((m_X4_at s88.2 s64.1 s88.1).bind fun v96 => ((if s88.2.1 0 16 ≤ s88.1 then some (0 : Int32) else ((ix s88.1 192).bind fun j102 => (if s88.2.1 12 j102 = 0 then some (0 : Int32) else some (1 : Int32)))).bind fun (t98 : Int32) => ((ix v96 1536).bind fun j105 => some (.inl ((s88.1 + 1), (sI s88.2 4 j105 (nz t98))))))))) ((0 : Int32), r73)).bind fun (r89 : St) => some (.inl ((s64.1 + 1), r89)))))) ((0 : Int32), r2)).bind fun (r65 : St) => ((lp 5000 (fun (s109 : Int32 × Int32) => (if (sI r65 0 5 (r65.1 0 16)).1 0 16 ≤ s109.2 then some (.inr s109.1) else ((ix s109.2 192).bind fun j117 => ((if (sI r65 0 5 (r65.1 0 16)).1 10 j117 = s109.2 then some (0 : Int32) else some (1 : Int32)).bind fun (t119 : Int32) => ((m_X4_flag (sI r65 0 5 (r65.1 0 16)) t119).bind fun v123 => some (.inl ((s109.1 + v123), (s109.2 + 1)))))))) ((0 : Int32), (0 : Int32))).bind fun (r110 : Int32) => some (r110, (sI r65 0 5 (r65.1 0 16))))))
set_option maxHeartbeats 4000000 in
set_option maxRecDepth 100000 in
theorem t_X4_puts (l : Launch) (hnt : l.stackTraces = false) {E : Ev} {base : Nat} (hE : Adr YM E base) (σ : St) (r : Int32 × St) (h : m_X4_puts σ = some r) : Ctr l yX4_puts cX4_puts 3 (some .int) 1 21 YM E base [.ref (E.2.2 0)] σ (.ok (some (.int r.1))) r.2 := by
  unfold m_X4_puts at h
  refine ofV 2 (by decide +kernel) rfl hE hnt (Nat.le_of_ble_eq_true rfl) rfl (fun M hN K => ?_)
  refine v_ic0 (pc := 0) K dX4_puts_0 ?_
  refine v_istore1 (pc := 1) K dX4_puts_1 rfl (Nat.le_of_ble_eq_true rfl) ?_
  obtain ⟨r2, h4, h⟩ := bd h
  have hJ3 : V (mkX M YM E base 3 (.ok (some (.int r.1))) r.2) r2 149 [some (.ref (E.2.2 0)), none, none] [] := by
    refine v_ic0 (pc := 149) K dX4_puts_149 ?_
    refine v_istore1 (pc := 150) K dX4_puts_150 rfl (Nat.le_of_ble_eq_true rfl) ?_
    obtain ⟨r65, h67, h⟩ := bd h
    have hJ66 : V (mkX M YM E base 3 (.ok (some (.int r.1))) r.2) r65 247 [some (.ref (E.2.2 0)), none, none] [] := by
      refine v_aload0 (pc := 247) K dX4_puts_247 ?_
      refine v_aload0 (pc := 248) K dX4_puts_248 ?_
      refine v_getI (pc := 249) K fl_RX4_276 dX4_puts_249 (Nat.le_of_ble_eq_true rfl) rfl rfl ?_
      refine v_put (pc := 252) K fw_RX4_80 dX4_puts_252 rfl rfl (Nat.le_of_ble_eq_true rfl) rfl rfl ?_
      refine v_ic0 (pc := 255) K dX4_puts_255 ?_
      refine v_istore1 (pc := 256) K dX4_puts_256 rfl (Nat.le_of_ble_eq_true rfl) ?_
      refine v_ic0 (pc := 257) K dX4_puts_257 ?_
      refine v_istore2 (pc := 258) K dX4_puts_258 rfl (Nat.le_of_ble_eq_true rfl) ?_
      obtain ⟨r110, h112, h⟩ := bd h
      have hJ111 : V (mkX M YM E base 3 (.ok (some (.int r.1))) r.2) (sI r65 0 5 (r65.1 0 16)) 294 [none, some (.int r110), none] [] := by
        refine v_iload1 (pc := 294) K dX4_puts_294 ?_
        cases h
        exact v_iret (pc := 295) K dX4_puts_295 rfl rfl
      clear h
      have hL125 := lpv h112 (fun s109 : Int32 × Int32 => V (mkX M YM E base 3 (.ok (some (.int r.1))) r.2) (sI r65 0 5 (r65.1 0 16)) 259 [some (.ref (E.2.2 0)), some (.int s109.1), some (.int s109.2)] [])
      refine hL125 (fun s109 o h hk => ?_)
      refine v_iload2 (pc := 259) K dX4_puts_259 ?_
      refine v_aload0 (pc := 260) K dX4_puts_260 ?_
      refine v_getI (pc := 261) K fl_RX4_276 dX4_puts_261 (Nat.le_of_ble_eq_true rfl) rfl rfl ?_
      refine v_icmp_ge (pc := 264) (tgt := 294) K dX4_puts_264 (by decide) (fun c116 => ?_) (fun c116 => ?_)
      · have h := it c116 h
        have e := lx h hk
        cases e
        exact v_fg [false, true, false] hJ111
      · have h := ie c116 h
        refine v_iload1 (pc := 267) K dX4_puts_267 ?_
        refine v_aload0 (pc := 268) K dX4_puts_268 ?_
        refine v_getR (pc := 269) K fl_RX4_39 dX4_puts_269 (Nat.le_of_ble_eq_true rfl) rfl rfl ?_
        refine v_iload2 (pc := 272) K dX4_puts_272 ?_
        obtain ⟨j117, h118, h⟩ := bd h
        refine v_iaload (pc := 273) K dX4_puts_273 (Nat.le_of_ble_eq_true rfl) rfl h118 ?_
        refine v_iload2 (pc := 274) K dX4_puts_274 ?_
        obtain ⟨t119, h121, h⟩ := bd h
        have hJ120 : V (mkX M YM E base 3 (.ok (some (.int r.1))) r.2) (sI r65 0 5 (r65.1 0 16)) 283 [some (.ref (E.2.2 0)), none, some (.int s109.2)] [.int t119, .int s109.1] := by
          obtain ⟨v123, h124, h⟩ := bd h
          refine v_cS1I (pc := 283)  K ca_yX4_flag ml_RX4_123 (t_X4_flag _ K.nt K.ad (sI r65 0 5 (r65.1 0 16)) t119 v123 h124) (Nat.le_of_ble_eq_true rfl) (by decide) (by decide) dX4_puts_283 ?_
          refine v_iadd (pc := 286) K dX4_puts_286 ?_
          refine v_istore1 (pc := 287) K dX4_puts_287 rfl (Nat.le_of_ble_eq_true rfl) ?_
          refine v_iinc2 (pc := 288) (w := 1) K dX4_puts_288 rfl (Nat.le_of_ble_eq_true rfl) (by decide) ?_
          refine v_goto (pc := 291) (tgt := 259) K dX4_puts_291 (by decide) ?_
          have e := lfc h hk
          exact e
        clear h
        have h := h121
        refine v_icmp_eq (pc := 275) (tgt := 282) K dX4_puts_275 (by decide) (fun c122 => ?_) (fun c122 => ?_)
        · have h := it c122 h
          refine v_ic0 (pc := 282) K dX4_puts_282 ?_
          cases h
          exact (v_fg [true, false, true] hJ120)
        · have h := ie c122 h
          refine v_ic1 (pc := 278) K dX4_puts_278 ?_
          refine v_goto (pc := 279) (tgt := 283) K dX4_puts_279 (by decide) ?_
          cases h
          exact (v_fg [true, false, true] hJ120)
    clear h
    have hL126 := lpv h67 (fun s64 : Int32 × St => V (mkX M YM E base 3 (.ok (some (.int r.1))) r.2) s64.2 151 [some (.ref (E.2.2 0)), some (.int s64.1), none] [])
    refine hL126 (fun s64 o h hk => ?_)
    refine v_iload1 (pc := 151) K dX4_puts_151 ?_
    refine v_bipush (pc := 152) (v := 8) K dX4_puts_152 (by decide) ?_
    refine v_icmp_ge (pc := 154) (tgt := 247) K dX4_puts_154 (by decide) (fun c71 => ?_) (fun c71 => ?_)
    · have h := it c71 h
      have e := lx h hk
      cases e
      exact v_fg [true, false, true] hJ66
    · have h := ie c71 h
      refine v_ic0 (pc := 157) K dX4_puts_157 ?_
      refine v_istore2 (pc := 158) K dX4_puts_158 rfl (Nat.le_of_ble_eq_true rfl) ?_
      obtain ⟨r73, h75, h⟩ := bd h
      have hJ74 : V (mkX M YM E base 3 (.ok (some (.int r.1))) r.2) r73 194 [some (.ref (E.2.2 0)), some (.int s64.1), none] [] := by
        refine v_ic0 (pc := 194) K dX4_puts_194 ?_
        refine v_istore2 (pc := 195) K dX4_puts_195 rfl (Nat.le_of_ble_eq_true rfl) ?_
        obtain ⟨r89, h91, h⟩ := bd h
        have hJ90 : V (mkX M YM E base 3 (.ok (some (.int r.1))) r.2) r89 241 [some (.ref (E.2.2 0)), some (.int s64.1), none] [] := by
          refine v_iinc1 (pc := 241) (w := 1) K dX4_puts_241 rfl (Nat.le_of_ble_eq_true rfl) (by decide) ?_
          refine v_goto (pc := 244) (tgt := 151) K dX4_puts_244 (by decide) ?_
          have e := lfc h hk
          exact e
        clear h
        have hL107 := lpv h91 (fun s88 : Int32 × St => V (mkX M YM E base 3 (.ok (some (.int r.1))) r.2) s88.2 196 [some (.ref (E.2.2 0)), some (.int s64.1), some (.int s88.1)] [])
        refine hL107 (fun s88 o h hk => ?_)
        refine v_iload2 (pc := 196) K dX4_puts_196 ?_
        refine v_sipush (pc := 197) (v := 192) K dX4_puts_197 (by decide) ?_
        refine v_icmp_ge (pc := 200) (tgt := 241) K dX4_puts_200 (by decide) (fun c95 => ?_) (fun c95 => ?_)
        · have h := it c95 h
          have e := lx h hk
          cases e
          exact v_fg [true, true, false] hJ90
        · have h := ie c95 h
          refine v_aload0 (pc := 203) K dX4_puts_203 ?_
          refine v_getR (pc := 204) K fl_RX4_21 dX4_puts_204 (Nat.le_of_ble_eq_true rfl) rfl rfl ?_
          refine v_iload1 (pc := 207) K dX4_puts_207 ?_
          refine v_iload2 (pc := 208) K dX4_puts_208 ?_
          obtain ⟨v96, h97, h⟩ := bd h
          refine v_cS2I (pc := 209)  K ca_yX4_at ml_RX4_94 (t_X4_at _ K.nt K.ad s88.2 s64.1 s88.1 v96 h97) (Nat.le_of_ble_eq_true rfl) (by decide) (by decide) dX4_puts_209 ?_
          refine v_iload2 (pc := 212) K dX4_puts_212 ?_
          refine v_aload0 (pc := 213) K dX4_puts_213 ?_
          refine v_getI (pc := 214) K fl_RX4_276 dX4_puts_214 (Nat.le_of_ble_eq_true rfl) rfl rfl ?_
          obtain ⟨t98, h100, h⟩ := bd h
          have hJ99 : V (mkX M YM E base 3 (.ok (some (.int r.1))) r.2) s88.2 234 [some (.ref (E.2.2 0)), some (.int s64.1), some (.int s88.1)] [.int t98, .int v96, .ref (E.2.2 4)] := by
            obtain ⟨j105, h106, h⟩ := bd h
            refine v_zastore (pc := 234) K dX4_puts_234 (Nat.le_of_ble_eq_true rfl) rfl h106 ?_
            refine v_iinc2 (pc := 235) (w := 1) K dX4_puts_235 rfl (Nat.le_of_ble_eq_true rfl) (by decide) ?_
            refine v_goto (pc := 238) (tgt := 196) K dX4_puts_238 (by decide) ?_
            have e := lfc h hk
            exact e
          clear h
          have h := h100
          refine v_icmp_ge (pc := 217) (tgt := 233) K dX4_puts_217 (by decide) (fun c101 => ?_) (fun c101 => ?_)
          · have h := it c101 h
            refine v_ic0 (pc := 233) K dX4_puts_233 ?_
            cases h
            exact hJ99
          · have h := ie c101 h
            refine v_aload0 (pc := 220) K dX4_puts_220 ?_
            refine v_getR (pc := 221) K fl_RX4_45 dX4_puts_221 (Nat.le_of_ble_eq_true rfl) rfl rfl ?_
            refine v_iload2 (pc := 224) K dX4_puts_224 ?_
            obtain ⟨j102, h103, h⟩ := bd h
            refine v_zaload (pc := 225) K dX4_puts_225 (Nat.le_of_ble_eq_true rfl) rfl h103 ?_
            refine v_if_eq (pc := 226) (tgt := 233) K dX4_puts_226 (by decide) (fun c104 => ?_) (fun c104 => ?_)
            · have h := it c104 h
              refine v_ic0 (pc := 233) K dX4_puts_233 ?_
              cases h
              exact hJ99
            · have h := ie c104 h
              refine v_ic1 (pc := 229) K dX4_puts_229 ?_
              refine v_goto (pc := 230) (tgt := 234) K dX4_puts_230 (by decide) ?_
              cases h
              exact hJ99
      clear h
      have hL108 := lpv h75 (fun s72 : Int32 × St => V (mkX M YM E base 3 (.ok (some (.int r.1))) r.2) s72.2 159 [some (.ref (E.2.2 0)), some (.int s64.1), some (.int s72.1)] [])
      refine hL108 (fun s72 o h hk => ?_)
      refine v_iload2 (pc := 159) K dX4_puts_159 ?_
      refine v_aload0 (pc := 160) K dX4_puts_160 ?_
      refine v_getI (pc := 161) K fl_RX4_276 dX4_puts_161 (Nat.le_of_ble_eq_true rfl) rfl rfl ?_
      refine v_icmp_ge (pc := 164) (tgt := 194) K dX4_puts_164 (by decide) (fun c79 => ?_) (fun c79 => ?_)
      · have h := it c79 h
        have e := lx h hk
        cases e
        exact v_fg [true, true, false] hJ74
      · have h := ie c79 h
        refine v_aload0 (pc := 167) K dX4_puts_167 ?_
        refine v_getR (pc := 168) K fl_RX4_45 dX4_puts_168 (Nat.le_of_ble_eq_true rfl) rfl rfl ?_
        refine v_iload2 (pc := 171) K dX4_puts_171 ?_
        refine v_aload0 (pc := 172) K dX4_puts_172 ?_
        refine v_getR (pc := 173) K fl_RX4_21 dX4_puts_173 (Nat.le_of_ble_eq_true rfl) rfl rfl ?_
        refine v_iload1 (pc := 176) K dX4_puts_176 ?_
        refine v_aload0 (pc := 177) K dX4_puts_177 ?_
        refine v_getR (pc := 178) K fl_RX4_39 dX4_puts_178 (Nat.le_of_ble_eq_true rfl) rfl rfl ?_
        refine v_iload2 (pc := 181) K dX4_puts_181 ?_
        obtain ⟨j80, h81, h⟩ := bd h
        refine v_iaload (pc := 182) K dX4_puts_182 (Nat.le_of_ble_eq_true rfl) rfl h81 ?_
        obtain ⟨v82, h83, h⟩ := bd h
        refine v_cS2I (pc := 183)  K ca_yX4_at ml_RX4_94 (t_X4_at _ K.nt K.ad s72.2 s64.1 (s72.2.1 10 j80) v82 h83) (Nat.le_of_ble_eq_true rfl) (by decide) (by decide) dX4_puts_183 ?_
        obtain ⟨j84, h85, h⟩ := bd h
        refine v_zaload (pc := 186) K dX4_puts_186 (Nat.le_of_ble_eq_true rfl) rfl h85 ?_
        obtain ⟨j86, h87, h⟩ := bd h
        refine v_zastore (pc := 187) K dX4_puts_187 (Nat.le_of_ble_eq_true rfl) rfl h87 ?_
        refine v_iinc2 (pc := 188) (w := 1) K dX4_puts_188 rfl (Nat.le_of_ble_eq_true rfl) (by decide) ?_
        refine v_goto (pc := 191) (tgt := 159) K dX4_puts_191 (by decide) ?_
        have e := lfc h hk
        exact e
  clear h
  have hL127 := lpv h4 (fun s1 : Int32 × St => V (mkX M YM E base 3 (.ok (some (.int r.1))) r.2) s1.2 2 [some (.ref (E.2.2 0)), some (.int s1.1), none] [])
  refine hL127 (fun s1 o h hk => ?_)
  refine v_iload1 (pc := 2) K dX4_puts_2 ?_
  refine v_aload0 (pc := 3) K dX4_puts_3 ?_
  refine v_getI (pc := 4) K fl_RX4_73 dX4_puts_4 (Nat.le_of_ble_eq_true rfl) rfl rfl ?_
  refine v_icmp_ge (pc := 7) (tgt := 149) K dX4_puts_7 (by decide) (fun c8 => ?_) (fun c8 => ?_)
  · have h := it c8 h
    have e := lx h hk
    cases e
    exact v_fg [true, false, true] hJ3
  · have h := ie c8 h
    refine v_ic0 (pc := 10) K dX4_puts_10 ?_
    refine v_istore2 (pc := 11) K dX4_puts_11 rfl (Nat.le_of_ble_eq_true rfl) ?_
    obtain ⟨r10, h12, h⟩ := bd h
    have hJ11 : V (mkX M YM E base 3 (.ok (some (.int r.1))) r.2) r10 68 [some (.ref (E.2.2 0)), some (.int s1.1), none] [] := by
      refine v_ic0 (pc := 68) K dX4_puts_68 ?_
      refine v_istore2 (pc := 69) K dX4_puts_69 rfl (Nat.le_of_ble_eq_true rfl) ?_
      obtain ⟨r34, h36, h⟩ := bd h
      have hJ35 : V (mkX M YM E base 3 (.ok (some (.int r.1))) r.2) r34 143 [some (.ref (E.2.2 0)), some (.int s1.1), none] [] := by
        refine v_iinc1 (pc := 143) (w := 1) K dX4_puts_143 rfl (Nat.le_of_ble_eq_true rfl) (by decide) ?_
        refine v_goto (pc := 146) (tgt := 2) K dX4_puts_146 (by decide) ?_
        have e := lfc h hk
        exact e
      clear h
      have hL62 := lpv h36 (fun s33 : Int32 × St => V (mkX M YM E base 3 (.ok (some (.int r.1))) r.2) s33.2 70 [some (.ref (E.2.2 0)), some (.int s1.1), some (.int s33.1)] [])
      refine hL62 (fun s33 o h hk => ?_)
      refine v_iload2 (pc := 70) K dX4_puts_70 ?_
      refine v_sipush (pc := 71) (v := 192) K dX4_puts_71 (by decide) ?_
      refine v_icmp_ge (pc := 74) (tgt := 143) K dX4_puts_74 (by decide) (fun c40 => ?_) (fun c40 => ?_)
      · have h := it c40 h
        have e := lx h hk
        cases e
        exact v_fg [true, true, false] hJ35
      · have h := ie c40 h
        refine v_aload0 (pc := 77) K dX4_puts_77 ?_
        refine v_getR (pc := 78) K fl_RX4_13 dX4_puts_78 (Nat.le_of_ble_eq_true rfl) rfl rfl ?_
        refine v_iload1 (pc := 81) K dX4_puts_81 ?_
        refine v_iload2 (pc := 82) K dX4_puts_82 ?_
        obtain ⟨v41, h42, h⟩ := bd h
        refine v_cS2I (pc := 83)  K ca_yX4_at ml_RX4_94 (t_X4_at _ K.nt K.ad s33.2 s1.1 s33.1 v41 h42) (Nat.le_of_ble_eq_true rfl) (by decide) (by decide) dX4_puts_83 ?_
        refine v_iload2 (pc := 86) K dX4_puts_86 ?_
        refine v_aload0 (pc := 87) K dX4_puts_87 ?_
        refine v_getI (pc := 88) K fl_RX4_276 dX4_puts_88 (Nat.le_of_ble_eq_true rfl) rfl rfl ?_
        obtain ⟨t43, h45, h⟩ := bd h
        have hJ44 : V (mkX M YM E base 3 (.ok (some (.int r.1))) r.2) s33.2 108 [some (.ref (E.2.2 0)), some (.int s1.1), some (.int s33.1)] [.int t43, .int v41, .ref (E.2.2 2)] := by
          obtain ⟨j50, h51, h⟩ := bd h
          refine v_zastore (pc := 108) K dX4_puts_108 (Nat.le_of_ble_eq_true rfl) rfl h51 ?_
          refine v_aload0 (pc := 109) K dX4_puts_109 ?_
          refine v_getR (pc := 110) K fl_RX4_7 dX4_puts_110 (Nat.le_of_ble_eq_true rfl) rfl rfl ?_
          refine v_iload1 (pc := 113) K dX4_puts_113 ?_
          refine v_iload2 (pc := 114) K dX4_puts_114 ?_
          obtain ⟨v52, h53, h⟩ := bd h
          refine v_cS2I (pc := 115)  K ca_yX4_at ml_RX4_94 (t_X4_at _ K.nt K.ad (sI s33.2 2 j50 (nz t43)) s1.1 s33.1 v52 h53) (Nat.le_of_ble_eq_true rfl) (by decide) (by decide) dX4_puts_115 ?_
          refine v_iload2 (pc := 118) K dX4_puts_118 ?_
          refine v_aload0 (pc := 119) K dX4_puts_119 ?_
          refine v_getI (pc := 120) K fl_RX4_276 dX4_puts_120 (Nat.le_of_ble_eq_true rfl) rfl rfl ?_
          obtain ⟨t54, h56, h⟩ := bd h
          have hJ55 : V (mkX M YM E base 3 (.ok (some (.int r.1))) r.2) (sI s33.2 2 j50 (nz t43)) 136 [some (.ref (E.2.2 0)), some (.int s1.1), some (.int s33.1)] [.long t54, .int v52, .ref (E.2.2 1)] := by
            obtain ⟨j60, h61, h⟩ := bd h
            refine v_lastore (pc := 136) K dX4_puts_136 (Nat.le_of_ble_eq_true rfl) rfl h61 ?_
            refine v_iinc2 (pc := 137) (w := 1) K dX4_puts_137 rfl (Nat.le_of_ble_eq_true rfl) (by decide) ?_
            refine v_goto (pc := 140) (tgt := 70) K dX4_puts_140 (by decide) ?_
            have e := lfc h hk
            exact e
          clear h
          have h := h56
          refine v_icmp_ge (pc := 123) (tgt := 135) K dX4_puts_123 (by decide) (fun c57 => ?_) (fun c57 => ?_)
          · have h := it c57 h
            refine v_lc0 (pc := 135) K dX4_puts_135 ?_
            cases h
            exact hJ55
          · have h := ie c57 h
            refine v_aload0 (pc := 126) K dX4_puts_126 ?_
            refine v_getR (pc := 127) K fl_RX4_42 dX4_puts_127 (Nat.le_of_ble_eq_true rfl) rfl rfl ?_
            refine v_iload2 (pc := 130) K dX4_puts_130 ?_
            obtain ⟨j58, h59, h⟩ := bd h
            refine v_laload (pc := 131) K dX4_puts_131 (Nat.le_of_ble_eq_true rfl) rfl h59 ?_
            refine v_goto (pc := 132) (tgt := 136) K dX4_puts_132 (by decide) ?_
            cases h
            exact hJ55
        clear h
        have h := h45
        refine v_icmp_ge (pc := 91) (tgt := 107) K dX4_puts_91 (by decide) (fun c46 => ?_) (fun c46 => ?_)
        · have h := it c46 h
          refine v_ic0 (pc := 107) K dX4_puts_107 ?_
          cases h
          exact hJ44
        · have h := ie c46 h
          refine v_aload0 (pc := 94) K dX4_puts_94 ?_
          refine v_getR (pc := 95) K fl_RX4_45 dX4_puts_95 (Nat.le_of_ble_eq_true rfl) rfl rfl ?_
          refine v_iload2 (pc := 98) K dX4_puts_98 ?_
          obtain ⟨j47, h48, h⟩ := bd h
          refine v_zaload (pc := 99) K dX4_puts_99 (Nat.le_of_ble_eq_true rfl) rfl h48 ?_
          refine v_if_eq (pc := 100) (tgt := 107) K dX4_puts_100 (by decide) (fun c49 => ?_) (fun c49 => ?_)
          · have h := it c49 h
            refine v_ic0 (pc := 107) K dX4_puts_107 ?_
            cases h
            exact hJ44
          · have h := ie c49 h
            refine v_ic1 (pc := 103) K dX4_puts_103 ?_
            refine v_goto (pc := 104) (tgt := 108) K dX4_puts_104 (by decide) ?_
            cases h
            exact hJ44
    clear h
    have hL63 := lpv h12 (fun s9 : Int32 × St => V (mkX M YM E base 3 (.ok (some (.int r.1))) r.2) s9.2 12 [some (.ref (E.2.2 0)), some (.int s1.1), some (.int s9.1)] [])
    refine hL63 (fun s9 o h hk => ?_)
    refine v_iload2 (pc := 12) K dX4_puts_12 ?_
    refine v_aload0 (pc := 13) K dX4_puts_13 ?_
    refine v_getI (pc := 14) K fl_RX4_276 dX4_puts_14 (Nat.le_of_ble_eq_true rfl) rfl rfl ?_
    refine v_icmp_ge (pc := 17) (tgt := 68) K dX4_puts_17 (by decide) (fun c16 => ?_) (fun c16 => ?_)
    · have h := it c16 h
      have e := lx h hk
      cases e
      exact v_fg [true, true, false] hJ11
    · have h := ie c16 h
      refine v_aload0 (pc := 20) K dX4_puts_20 ?_
      refine v_getR (pc := 21) K fl_RX4_42 dX4_puts_21 (Nat.le_of_ble_eq_true rfl) rfl rfl ?_
      refine v_iload2 (pc := 24) K dX4_puts_24 ?_
      refine v_aload0 (pc := 25) K dX4_puts_25 ?_
      refine v_getR (pc := 26) K fl_RX4_7 dX4_puts_26 (Nat.le_of_ble_eq_true rfl) rfl rfl ?_
      refine v_iload1 (pc := 29) K dX4_puts_29 ?_
      refine v_aload0 (pc := 30) K dX4_puts_30 ?_
      refine v_getR (pc := 31) K fl_RX4_39 dX4_puts_31 (Nat.le_of_ble_eq_true rfl) rfl rfl ?_
      refine v_iload2 (pc := 34) K dX4_puts_34 ?_
      obtain ⟨j17, h18, h⟩ := bd h
      refine v_iaload (pc := 35) K dX4_puts_35 (Nat.le_of_ble_eq_true rfl) rfl h18 ?_
      obtain ⟨v19, h20, h⟩ := bd h
      refine v_cS2I (pc := 36)  K ca_yX4_at ml_RX4_94 (t_X4_at _ K.nt K.ad s9.2 s1.1 (s9.2.1 10 j17) v19 h20) (Nat.le_of_ble_eq_true rfl) (by decide) (by decide) dX4_puts_36 ?_
      obtain ⟨j21, h22, h⟩ := bd h
      refine v_laload (pc := 39) K dX4_puts_39 (Nat.le_of_ble_eq_true rfl) rfl h22 ?_
      obtain ⟨j23, h24, h⟩ := bd h
      refine v_lastore (pc := 40) K dX4_puts_40 (Nat.le_of_ble_eq_true rfl) rfl h24 ?_
      refine v_aload0 (pc := 41) K dX4_puts_41 ?_
      refine v_getR (pc := 42) K fl_RX4_45 dX4_puts_42 (Nat.le_of_ble_eq_true rfl) rfl rfl ?_
      refine v_iload2 (pc := 45) K dX4_puts_45 ?_
      refine v_aload0 (pc := 46) K dX4_puts_46 ?_
      refine v_getR (pc := 47) K fl_RX4_13 dX4_puts_47 (Nat.le_of_ble_eq_true rfl) rfl rfl ?_
      refine v_iload1 (pc := 50) K dX4_puts_50 ?_
      refine v_aload0 (pc := 51) K dX4_puts_51 ?_
      refine v_getR (pc := 52) K fl_RX4_39 dX4_puts_52 (Nat.le_of_ble_eq_true rfl) rfl rfl ?_
      refine v_iload2 (pc := 55) K dX4_puts_55 ?_
      obtain ⟨j25, h26, h⟩ := bd h
      refine v_iaload (pc := 56) K dX4_puts_56 (Nat.le_of_ble_eq_true rfl) rfl h26 ?_
      obtain ⟨v27, h28, h⟩ := bd h
      refine v_cS2I (pc := 57)  K ca_yX4_at ml_RX4_94 (t_X4_at _ K.nt K.ad (sL s9.2 11 j23 (s9.2.2 1 j21)) s1.1 ((sL s9.2 11 j23 (s9.2.2 1 j21)).1 10 j25) v27 h28) (Nat.le_of_ble_eq_true rfl) (by decide) (by decide) dX4_puts_57 ?_
      obtain ⟨j29, h30, h⟩ := bd h
      refine v_zaload (pc := 60) K dX4_puts_60 (Nat.le_of_ble_eq_true rfl) rfl h30 ?_
      obtain ⟨j31, h32, h⟩ := bd h
      refine v_zastore (pc := 61) K dX4_puts_61 (Nat.le_of_ble_eq_true rfl) rfl h32 ?_
      refine v_iinc2 (pc := 62) (w := 1) K dX4_puts_62 rfl (Nat.le_of_ble_eq_true rfl) (by decide) ?_
      refine v_goto (pc := 65) (tgt := 12) K dX4_puts_65 (by decide) ?_
      have e := lfc h hk
      exact e
set_option maxRecDepth 100000 in
def m_X4_remove (σ : St) (a0 : Int32) : Option (Int32 × St) :=
  ((m_X4_isMask (sI σ 0 0 (0 : Int32)) a0).bind fun v1 => (if v1 = 0 then ((m_X4_fails (sI σ 0 0 (0 : Int32)) (1 : Int32)).bind fun v8 => some (v8.1, v8.2)) else ((m_X4_ordersThose (sI (sI σ 0 0 (0 : Int32)) 0 16 (0 : Int32)) a0 (0 : Int32)).bind fun v4 => ((m_X4_puts v4).bind fun v6 => some (v6.2.1 0 5, v6.2)))))
set_option maxHeartbeats 4000000 in
set_option maxRecDepth 100000 in
theorem t_X4_remove (l : Launch) (hnt : l.stackTraces = false) {E : Ev} {base : Nat} (hE : Adr YM E base) (σ : St) (a0 : Int32) (r : Int32 × St) (h : m_X4_remove σ a0 = some r) : Ctr l yX4_remove cX4_remove 3 (some .int) 2 45 YM E base [.ref (E.2.2 0), .int a0] σ (.ok (some (.int r.1))) r.2 := by
  unfold m_X4_remove at h
  refine ofV 1 (by decide +kernel) rfl hE hnt (Nat.le_of_ble_eq_true rfl) rfl (fun M hN K => ?_)
  refine v_aload0 (pc := 0) K dX4_remove_0 ?_
  refine v_ic0 (pc := 1) K dX4_remove_1 ?_
  refine v_put (pc := 2) K fw_RX4_69 dX4_remove_2 rfl rfl (Nat.le_of_ble_eq_true rfl) rfl rfl ?_
  refine v_iload1 (pc := 5) K dX4_remove_5 ?_
  obtain ⟨v1, h2, h⟩ := bd h
  refine v_cS1I (pc := 6)  K ca_yX4_isMask ml_RX4_91 (t_X4_isMask _ K.nt K.ad (sI σ 0 0 (0 : Int32)) a0 v1 h2) (Nat.le_of_ble_eq_true rfl) (by decide) (by decide) dX4_remove_6 ?_
  refine v_if_ne (pc := 9) (tgt := 18) K dX4_remove_9 (by decide) (fun c3 => ?_) (fun c3 => ?_)
  · have h := ie c3 h
    refine v_aload0 (pc := 18) K dX4_remove_18 ?_
    refine v_ic0 (pc := 19) K dX4_remove_19 ?_
    refine v_put (pc := 20) K fw_RX4_276 dX4_remove_20 rfl rfl (Nat.le_of_ble_eq_true rfl) rfl rfl ?_
    refine v_aload0 (pc := 23) K dX4_remove_23 ?_
    refine v_iload1 (pc := 24) K dX4_remove_24 ?_
    refine v_ic0 (pc := 25) K dX4_remove_25 ?_
    obtain ⟨v4, h5, h⟩ := bd h
    refine v_cV2U (pc := 26)  K ca_yX4_ordersThose ml_RX4_283 (Nat.le_of_ble_eq_true rfl) rfl rfl (t_X4_ordersThose _ K.nt K.ad (sI (sI σ 0 0 (0 : Int32)) 0 16 (0 : Int32)) a0 (0 : Int32) v4 h5) (Nat.le_of_ble_eq_true rfl) (by decide) (by decide) dX4_remove_26 ?_
    refine v_aload0 (pc := 29) K dX4_remove_29 ?_
    obtain ⟨v6, h7, h⟩ := bd h
    refine v_cV0I (pc := 30)  K ca_yX4_puts ml_RX4_287 (Nat.le_of_ble_eq_true rfl) rfl rfl (t_X4_puts _ K.nt K.ad v4 v6 h7) (Nat.le_of_ble_eq_true rfl) (by decide) (by decide) dX4_remove_30 ?_
    refine v_istore2 (pc := 33) K dX4_remove_33 rfl (Nat.le_of_ble_eq_true rfl) ?_
    refine v_aload0 (pc := 34) K dX4_remove_34 ?_
    refine v_getI (pc := 35) K fl_RX4_80 dX4_remove_35 (Nat.le_of_ble_eq_true rfl) rfl rfl ?_
    cases h
    exact v_iret (pc := 38) K dX4_remove_38 rfl rfl
  · have h := it c3 h
    refine v_aload0 (pc := 12) K dX4_remove_12 ?_
    refine v_ic1 (pc := 13) K dX4_remove_13 ?_
    obtain ⟨v8, h9, h⟩ := bd h
    refine v_cV1I (pc := 14)  K ca_yX4_fails ml_RX4_105 (Nat.le_of_ble_eq_true rfl) rfl rfl (t_X4_fails _ K.nt K.ad (sI σ 0 0 (0 : Int32)) (1 : Int32) v8 h9) (Nat.le_of_ble_eq_true rfl) (by decide) (by decide) dX4_remove_14 ?_
    cases h
    exact v_iret (pc := 17) K dX4_remove_17 rfl rfl
set_option maxRecDepth 100000 in
def m_X4_first (σ : St) (a0 : Int32) : Option (Int32 × St) :=
  ((m_X4_isMask (sI σ 0 0 (0 : Int32)) a0).bind fun v1 => (if v1 = 0 then ((m_X4_fails (sI σ 0 0 (0 : Int32)) (1 : Int32)).bind fun v10 => some (v10.1, v10.2)) else ((m_X4_ordersThose (sI (sI σ 0 0 (0 : Int32)) 0 16 (0 : Int32)) a0 (1 : Int32)).bind fun v4 => ((m_X4_ordersThose v4 a0 (0 : Int32)).bind fun v6 => ((m_X4_puts v6).bind fun v8 => some (v8.1, v8.2))))))
set_option maxHeartbeats 4000000 in
set_option maxRecDepth 100000 in
theorem t_X4_first (l : Launch) (hnt : l.stackTraces = false) {E : Ev} {base : Nat} (hE : Adr YM E base) (σ : St) (a0 : Int32) (r : Int32 × St) (h : m_X4_first σ a0 = some r) : Ctr l yX4_first cX4_first 2 (some .int) 2 45 YM E base [.ref (E.2.2 0), .int a0] σ (.ok (some (.int r.1))) r.2 := by
  unfold m_X4_first at h
  refine ofV 0 (by decide +kernel) rfl hE hnt (Nat.le_of_ble_eq_true rfl) rfl (fun M hN K => ?_)
  refine v_aload0 (pc := 0) K dX4_first_0 ?_
  refine v_ic0 (pc := 1) K dX4_first_1 ?_
  refine v_put (pc := 2) K fw_RX4_69 dX4_first_2 rfl rfl (Nat.le_of_ble_eq_true rfl) rfl rfl ?_
  refine v_iload1 (pc := 5) K dX4_first_5 ?_
  obtain ⟨v1, h2, h⟩ := bd h
  refine v_cS1I (pc := 6)  K ca_yX4_isMask ml_RX4_91 (t_X4_isMask _ K.nt K.ad (sI σ 0 0 (0 : Int32)) a0 v1 h2) (Nat.le_of_ble_eq_true rfl) (by decide) (by decide) dX4_first_6 ?_
  refine v_if_ne (pc := 9) (tgt := 18) K dX4_first_9 (by decide) (fun c3 => ?_) (fun c3 => ?_)
  · have h := ie c3 h
    refine v_aload0 (pc := 18) K dX4_first_18 ?_
    refine v_ic0 (pc := 19) K dX4_first_19 ?_
    refine v_put (pc := 20) K fw_RX4_276 dX4_first_20 rfl rfl (Nat.le_of_ble_eq_true rfl) rfl rfl ?_
    refine v_aload0 (pc := 23) K dX4_first_23 ?_
    refine v_iload1 (pc := 24) K dX4_first_24 ?_
    refine v_ic1 (pc := 25) K dX4_first_25 ?_
    obtain ⟨v4, h5, h⟩ := bd h
    refine v_cV2U (pc := 26)  K ca_yX4_ordersThose ml_RX4_283 (Nat.le_of_ble_eq_true rfl) rfl rfl (t_X4_ordersThose _ K.nt K.ad (sI (sI σ 0 0 (0 : Int32)) 0 16 (0 : Int32)) a0 (1 : Int32) v4 h5) (Nat.le_of_ble_eq_true rfl) (by decide) (by decide) dX4_first_26 ?_
    refine v_aload0 (pc := 29) K dX4_first_29 ?_
    refine v_iload1 (pc := 30) K dX4_first_30 ?_
    refine v_ic0 (pc := 31) K dX4_first_31 ?_
    obtain ⟨v6, h7, h⟩ := bd h
    refine v_cV2U (pc := 32)  K ca_yX4_ordersThose ml_RX4_283 (Nat.le_of_ble_eq_true rfl) rfl rfl (t_X4_ordersThose _ K.nt K.ad v4 a0 (0 : Int32) v6 h7) (Nat.le_of_ble_eq_true rfl) (by decide) (by decide) dX4_first_32 ?_
    refine v_aload0 (pc := 35) K dX4_first_35 ?_
    obtain ⟨v8, h9, h⟩ := bd h
    refine v_cV0I (pc := 36)  K ca_yX4_puts ml_RX4_287 (Nat.le_of_ble_eq_true rfl) rfl rfl (t_X4_puts _ K.nt K.ad v6 v8 h9) (Nat.le_of_ble_eq_true rfl) (by decide) (by decide) dX4_first_36 ?_
    cases h
    exact v_iret (pc := 39) K dX4_first_39 rfl rfl
  · have h := it c3 h
    refine v_aload0 (pc := 12) K dX4_first_12 ?_
    refine v_ic1 (pc := 13) K dX4_first_13 ?_
    obtain ⟨v10, h11, h⟩ := bd h
    refine v_cV1I (pc := 14)  K ca_yX4_fails ml_RX4_105 (Nat.le_of_ble_eq_true rfl) rfl rfl (t_X4_fails _ K.nt K.ad (sI σ 0 0 (0 : Int32)) (1 : Int32) v10 h11) (Nat.le_of_ble_eq_true rfl) (by decide) (by decide) dX4_first_14 ?_
    cases h
    exact v_iret (pc := 17) K dX4_first_17 rfl rfl
set_option maxRecDepth 100000 in
def m_X4_goesAhead (σ : St) (a0 : Int32) (a1 : Int32) (a2 : Int32) (a3 : Int32) : Option (Int32) :=
  ((m_X4_at σ a0 a1).bind fun v1 => ((ix v1 1152).bind fun j3 => (if σ.1 2 j3 = 0 then ((m_X4_at σ a0 a1).bind fun v6 => ((ix v6 1152).bind fun j8 => ((if σ.1 2 j8 = 0 then some (0 : Int32) else ((m_X4_at σ a0 a2).bind fun v14 => ((ix v14 1152).bind fun j16 => (if σ.1 2 j16 = 0 then some (1 : Int32) else some (0 : Int32))))).bind fun (t10 : Int32) => some (nz t10)))) else ((m_X4_at σ a0 a2).bind fun v19 => ((ix v19 1152).bind fun j21 => (if σ.1 2 j21 = 0 then ((m_X4_at σ a0 a1).bind fun v38 => ((ix v38 1152).bind fun j40 => ((if σ.1 2 j40 = 0 then some (0 : Int32) else ((m_X4_at σ a0 a2).bind fun v46 => ((ix v46 1152).bind fun j48 => (if σ.1 2 j48 = 0 then some (1 : Int32) else some (0 : Int32))))).bind fun (t42 : Int32) => some (nz t42)))) else ((m_X4_at σ a0 a1).bind fun v24 => ((ix v24 1152).bind fun j26 => ((m_X4_at σ a0 a2).bind fun v28 => ((ix v28 1152).bind fun j30 => ((if a3 = 0 then (if σ.2 1 j30 ≤ σ.2 1 j26 then some (0 : Int32) else some (1 : Int32)) else (if σ.2 1 j26 ≤ σ.2 1 j30 then some (0 : Int32) else some (1 : Int32))).bind fun (t32 : Int32) => some (nz t32))))))))))))
set_option maxHeartbeats 4000000 in
set_option maxRecDepth 100000 in
theorem t_X4_goesAhead (l : Launch) (hnt : l.stackTraces = false) {E : Ev} {base : Nat} (hE : Adr YM E base) (σ : St) (a0 : Int32) (a1 : Int32) (a2 : Int32) (a3 : Int32) (r : Int32) (h : m_X4_goesAhead σ a0 a1 a2 a3 = some r) : Ctr l yX4_goesAhead cX4_goesAhead 9 (some .boolean) 1 21 YM E base [.ref (E.2.2 0), .int a0, .int a1, .int a2, .int a3] σ (.ok (some (.int r))) σ := by
  unfold m_X4_goesAhead at h
  refine ofV 4 (by decide +kernel) rfl hE hnt (Nat.le_of_ble_eq_true rfl) rfl (fun M hN K => ?_)
  refine v_aload0 (pc := 0) K dX4_goesAhead_0 ?_
  refine v_getR (pc := 1) K fl_RX4_13 dX4_goesAhead_1 (Nat.le_of_ble_eq_true rfl) rfl rfl ?_
  refine v_iload1 (pc := 4) K dX4_goesAhead_4 ?_
  refine v_iload2 (pc := 5) K dX4_goesAhead_5 ?_
  obtain ⟨v1, h2, h⟩ := bd h
  refine v_cS2I (pc := 6)  K ca_yX4_at ml_RX4_94 (t_X4_at _ K.nt K.ad σ a0 a1 v1 h2) (Nat.le_of_ble_eq_true rfl) (by decide) (by decide) dX4_goesAhead_6 ?_
  obtain ⟨j3, h4, h⟩ := bd h
  refine v_zaload (pc := 9) K dX4_goesAhead_9 (Nat.le_of_ble_eq_true rfl) rfl h4 ?_
  refine v_if_eq (pc := 10) (tgt := 26) K dX4_goesAhead_10 (by decide) (fun c5 => ?_) (fun c5 => ?_)
  · have h := it c5 h
    refine v_aload0 (pc := 26) K dX4_goesAhead_26 ?_
    refine v_getR (pc := 27) K fl_RX4_13 dX4_goesAhead_27 (Nat.le_of_ble_eq_true rfl) rfl rfl ?_
    refine v_iload1 (pc := 30) K dX4_goesAhead_30 ?_
    refine v_iload2 (pc := 31) K dX4_goesAhead_31 ?_
    obtain ⟨v6, h7, h⟩ := bd h
    refine v_cS2I (pc := 32)  K ca_yX4_at ml_RX4_94 (t_X4_at _ K.nt K.ad σ a0 a1 v6 h7) (Nat.le_of_ble_eq_true rfl) (by decide) (by decide) dX4_goesAhead_32 ?_
    obtain ⟨j8, h9, h⟩ := bd h
    refine v_zaload (pc := 35) K dX4_goesAhead_35 (Nat.le_of_ble_eq_true rfl) rfl h9 ?_
    obtain ⟨t10, h12, h⟩ := bd h
    have hJ11 : V (mkX M YM E base 9 (.ok (some (.int r))) σ) σ 57 [none, none, none, none, none, none, none, none, none] [.int t10] := by
      cases h
      exact v_zret (pc := 57) K dX4_goesAhead_57 rfl rfl
    clear h
    have h := h12
    refine v_if_eq (pc := 36) (tgt := 56) K dX4_goesAhead_36 (by decide) (fun c13 => ?_) (fun c13 => ?_)
    · have h := it c13 h
      refine v_ic0 (pc := 56) K dX4_goesAhead_56 ?_
      cases h
      exact (v_fg [false, false, false, false, false, true, true, true, true] hJ11)
    · have h := ie c13 h
      refine v_aload0 (pc := 39) K dX4_goesAhead_39 ?_
      refine v_getR (pc := 40) K fl_RX4_13 dX4_goesAhead_40 (Nat.le_of_ble_eq_true rfl) rfl rfl ?_
      refine v_iload1 (pc := 43) K dX4_goesAhead_43 ?_
      refine v_iload3 (pc := 44) K dX4_goesAhead_44 ?_
      obtain ⟨v14, h15, h⟩ := bd h
      refine v_cS2I (pc := 45)  K ca_yX4_at ml_RX4_94 (t_X4_at _ K.nt K.ad σ a0 a2 v14 h15) (Nat.le_of_ble_eq_true rfl) (by decide) (by decide) dX4_goesAhead_45 ?_
      obtain ⟨j16, h17, h⟩ := bd h
      refine v_zaload (pc := 48) K dX4_goesAhead_48 (Nat.le_of_ble_eq_true rfl) rfl h17 ?_
      refine v_if_ne (pc := 49) (tgt := 56) K dX4_goesAhead_49 (by decide) (fun c18 => ?_) (fun c18 => ?_)
      · have h := ie c18 h
        refine v_ic0 (pc := 56) K dX4_goesAhead_56 ?_
        cases h
        exact (v_fg [false, false, false, false, false, true, true, true, true] hJ11)
      · have h := it c18 h
        refine v_ic1 (pc := 52) K dX4_goesAhead_52 ?_
        refine v_goto (pc := 53) (tgt := 57) K dX4_goesAhead_53 (by decide) ?_
        cases h
        exact (v_fg [false, false, false, false, false, true, true, true, true] hJ11)
  · have h := ie c5 h
    refine v_aload0 (pc := 13) K dX4_goesAhead_13 ?_
    refine v_getR (pc := 14) K fl_RX4_13 dX4_goesAhead_14 (Nat.le_of_ble_eq_true rfl) rfl rfl ?_
    refine v_iload1 (pc := 17) K dX4_goesAhead_17 ?_
    refine v_iload3 (pc := 18) K dX4_goesAhead_18 ?_
    obtain ⟨v19, h20, h⟩ := bd h
    refine v_cS2I (pc := 19)  K ca_yX4_at ml_RX4_94 (t_X4_at _ K.nt K.ad σ a0 a2 v19 h20) (Nat.le_of_ble_eq_true rfl) (by decide) (by decide) dX4_goesAhead_19 ?_
    obtain ⟨j21, h22, h⟩ := bd h
    refine v_zaload (pc := 22) K dX4_goesAhead_22 (Nat.le_of_ble_eq_true rfl) rfl h22 ?_
    refine v_if_ne (pc := 23) (tgt := 58) K dX4_goesAhead_23 (by decide) (fun c23 => ?_) (fun c23 => ?_)
    · have h := ie c23 h
      refine v_aload0 (pc := 58) K dX4_goesAhead_58 ?_
      refine v_getR (pc := 59) K fl_RX4_7 dX4_goesAhead_59 (Nat.le_of_ble_eq_true rfl) rfl rfl ?_
      refine v_iload1 (pc := 62) K dX4_goesAhead_62 ?_
      refine v_iload2 (pc := 63) K dX4_goesAhead_63 ?_
      obtain ⟨v24, h25, h⟩ := bd h
      refine v_cS2I (pc := 64)  K ca_yX4_at ml_RX4_94 (t_X4_at _ K.nt K.ad σ a0 a1 v24 h25) (Nat.le_of_ble_eq_true rfl) (by decide) (by decide) dX4_goesAhead_64 ?_
      obtain ⟨j26, h27, h⟩ := bd h
      refine v_laload (pc := 67) K dX4_goesAhead_67 (Nat.le_of_ble_eq_true rfl) rfl h27 ?_
      refine v_lstore5 (pc := 68) K dX4_goesAhead_68 rfl (Nat.le_of_ble_eq_true rfl) ?_
      refine v_aload0 (pc := 70) K dX4_goesAhead_70 ?_
      refine v_getR (pc := 71) K fl_RX4_7 dX4_goesAhead_71 (Nat.le_of_ble_eq_true rfl) rfl rfl ?_
      refine v_iload1 (pc := 74) K dX4_goesAhead_74 ?_
      refine v_iload3 (pc := 75) K dX4_goesAhead_75 ?_
      obtain ⟨v28, h29, h⟩ := bd h
      refine v_cS2I (pc := 76)  K ca_yX4_at ml_RX4_94 (t_X4_at _ K.nt K.ad σ a0 a2 v28 h29) (Nat.le_of_ble_eq_true rfl) (by decide) (by decide) dX4_goesAhead_76 ?_
      obtain ⟨j30, h31, h⟩ := bd h
      refine v_laload (pc := 79) K dX4_goesAhead_79 (Nat.le_of_ble_eq_true rfl) rfl h31 ?_
      refine v_lstore7 (pc := 80) K dX4_goesAhead_80 rfl (Nat.le_of_ble_eq_true rfl) ?_
      refine v_iload4 (pc := 82) K dX4_goesAhead_82 ?_
      obtain ⟨t32, h34, h⟩ := bd h
      have hJ33 : V (mkX M YM E base 9 (.ok (some (.int r))) σ) σ 116 [none, none, none, none, none, none, none, none, none] [.int t32] := by
        cases h
        exact v_zret (pc := 116) K dX4_goesAhead_116 rfl rfl
      clear h
      have h := h34
      refine v_if_eq (pc := 84) (tgt := 103) K dX4_goesAhead_84 (by decide) (fun c35 => ?_) (fun c35 => ?_)
      · have h := it c35 h
        refine v_lload5 (pc := 103) K dX4_goesAhead_103 ?_
        refine v_lload7 (pc := 105) K dX4_goesAhead_105 ?_
        refine v_lc_ge (pc := 107) (tgt := 115) K dX4_goesAhead_107 dX4_goesAhead_108 (by decide) (fun c36 => ?_) (fun c36 => ?_)
        · have h := it c36 h
          refine v_ic0 (pc := 115) K dX4_goesAhead_115 ?_
          cases h
          exact (v_fg [false, false, false, false, false, false, true, false, true] hJ33)
        · have h := ie c36 h
          refine v_ic1 (pc := 111) K dX4_goesAhead_111 ?_
          refine v_goto (pc := 112) (tgt := 116) K dX4_goesAhead_112 (by decide) ?_
          cases h
          exact (v_fg [false, false, false, false, false, false, true, false, true] hJ33)
      · have h := ie c35 h
        refine v_lload5 (pc := 87) K dX4_goesAhead_87 ?_
        refine v_lload7 (pc := 89) K dX4_goesAhead_89 ?_
        refine v_lc_le (pc := 91) (tgt := 99) K dX4_goesAhead_91 dX4_goesAhead_92 (by decide) (fun c37 => ?_) (fun c37 => ?_)
        · have h := it c37 h
          refine v_ic0 (pc := 99) K dX4_goesAhead_99 ?_
          refine v_goto (pc := 100) (tgt := 116) K dX4_goesAhead_100 (by decide) ?_
          cases h
          exact (v_fg [false, false, false, false, false, false, true, false, true] hJ33)
        · have h := ie c37 h
          refine v_ic1 (pc := 95) K dX4_goesAhead_95 ?_
          refine v_goto (pc := 96) (tgt := 116) K dX4_goesAhead_96 (by decide) ?_
          cases h
          exact (v_fg [false, false, false, false, false, false, true, false, true] hJ33)
    · have h := it c23 h
      refine v_aload0 (pc := 26) K dX4_goesAhead_26 ?_
      refine v_getR (pc := 27) K fl_RX4_13 dX4_goesAhead_27 (Nat.le_of_ble_eq_true rfl) rfl rfl ?_
      refine v_iload1 (pc := 30) K dX4_goesAhead_30 ?_
      refine v_iload2 (pc := 31) K dX4_goesAhead_31 ?_
      obtain ⟨v38, h39, h⟩ := bd h
      refine v_cS2I (pc := 32)  K ca_yX4_at ml_RX4_94 (t_X4_at _ K.nt K.ad σ a0 a1 v38 h39) (Nat.le_of_ble_eq_true rfl) (by decide) (by decide) dX4_goesAhead_32 ?_
      obtain ⟨j40, h41, h⟩ := bd h
      refine v_zaload (pc := 35) K dX4_goesAhead_35 (Nat.le_of_ble_eq_true rfl) rfl h41 ?_
      obtain ⟨t42, h44, h⟩ := bd h
      have hJ43 : V (mkX M YM E base 9 (.ok (some (.int r))) σ) σ 57 [none, none, none, none, none, none, none, none, none] [.int t42] := by
        cases h
        exact v_zret (pc := 57) K dX4_goesAhead_57 rfl rfl
      clear h
      have h := h44
      refine v_if_eq (pc := 36) (tgt := 56) K dX4_goesAhead_36 (by decide) (fun c45 => ?_) (fun c45 => ?_)
      · have h := it c45 h
        refine v_ic0 (pc := 56) K dX4_goesAhead_56 ?_
        cases h
        exact (v_fg [false, false, false, false, false, true, true, true, true] hJ43)
      · have h := ie c45 h
        refine v_aload0 (pc := 39) K dX4_goesAhead_39 ?_
        refine v_getR (pc := 40) K fl_RX4_13 dX4_goesAhead_40 (Nat.le_of_ble_eq_true rfl) rfl rfl ?_
        refine v_iload1 (pc := 43) K dX4_goesAhead_43 ?_
        refine v_iload3 (pc := 44) K dX4_goesAhead_44 ?_
        obtain ⟨v46, h47, h⟩ := bd h
        refine v_cS2I (pc := 45)  K ca_yX4_at ml_RX4_94 (t_X4_at _ K.nt K.ad σ a0 a2 v46 h47) (Nat.le_of_ble_eq_true rfl) (by decide) (by decide) dX4_goesAhead_45 ?_
        obtain ⟨j48, h49, h⟩ := bd h
        refine v_zaload (pc := 48) K dX4_goesAhead_48 (Nat.le_of_ble_eq_true rfl) rfl h49 ?_
        refine v_if_ne (pc := 49) (tgt := 56) K dX4_goesAhead_49 (by decide) (fun c50 => ?_) (fun c50 => ?_)
        · have h := ie c50 h
          refine v_ic0 (pc := 56) K dX4_goesAhead_56 ?_
          cases h
          exact (v_fg [false, false, false, false, false, true, true, true, true] hJ43)
        · have h := it c50 h
          refine v_ic1 (pc := 52) K dX4_goesAhead_52 ?_
          refine v_goto (pc := 53) (tgt := 57) K dX4_goesAhead_53 (by decide) ?_
          cases h
          exact (v_fg [false, false, false, false, false, true, true, true, true] hJ43)
set_option maxRecDepth 100000 in
def m_X4_sort (σ : St) (a0 : Int32) (a1 : Int32) : Option (Int32 × St) :=
  ((m_X4_isColumn (sI σ 0 0 (0 : Int32)) a0).bind fun v1 => (if v1 = 0 then ((m_X4_fails (sI σ 0 0 (0 : Int32)) (1 : Int32)).bind fun v35 => some (v35.1, v35.2)) else ((lp 5000 (fun (s4 : Int32 × St) => (if s4.2.1 0 5 ≤ s4.1 then some (.inr s4.2) else ((lp 5000 (fun (s12 : Int32 × St) => (if s12.1 ≤ 0 then some (.inr (s12.1, s12.2)) else ((ix (s12.1 - (1 : Int32)) 192).bind fun j20 => ((m_X4_goesAhead s12.2 a0 s4.1 (s12.2.1 10 j20) a1).bind fun v22 => (if v22 = 0 then some (.inr (s12.1, s12.2)) else ((ix (s12.1 - (1 : Int32)) 192).bind fun j25 => ((ix s12.1 192).bind fun j27 => some (.inl ((s12.1 + (-1)), (sI s12.2 10 j27 (s12.2.1 10 j25))))))))))) (s4.2.1 0 16, s4.2)).bind fun (r13 : Int32 × St) => ((ix r13.1 192).bind fun j29 => some (.inl ((s4.1 + 1), (sI (sI r13.2 10 j29 s4.1) 0 16 ((sI r13.2 10 j29 s4.1).1 0 16 + (1 : Int32))))))))) ((0 : Int32), (sI (sI σ 0 0 (0 : Int32)) 0 16 (0 : Int32)))).bind fun (r5 : St) => ((m_X4_puts r5).bind fun v32 => some (v32.1, v32.2)))))
set_option maxHeartbeats 4000000 in
set_option maxRecDepth 100000 in
theorem t_X4_sort (l : Launch) (hnt : l.stackTraces = false) {E : Ev} {base : Nat} (hE : Adr YM E base) (σ : St) (a0 : Int32) (a1 : Int32) (r : Int32 × St) (h : m_X4_sort σ a0 a1 = some r) : Ctr l yX4_sort cX4_sort 5 (some .int) 2 49 YM E base [.ref (E.2.2 0), .int a0, .int a1] σ (.ok (some (.int r.1))) r.2 := by
  unfold m_X4_sort at h
  refine ofV 2 (by decide +kernel) rfl hE hnt (Nat.le_of_ble_eq_true rfl) rfl (fun M hN K => ?_)
  refine v_aload0 (pc := 0) K dX4_sort_0 ?_
  refine v_ic0 (pc := 1) K dX4_sort_1 ?_
  refine v_put (pc := 2) K fw_RX4_69 dX4_sort_2 rfl rfl (Nat.le_of_ble_eq_true rfl) rfl rfl ?_
  refine v_aload0 (pc := 5) K dX4_sort_5 ?_
  refine v_iload1 (pc := 6) K dX4_sort_6 ?_
  obtain ⟨v1, h2, h⟩ := bd h
  refine v_cV1I (pc := 7)  K ca_yX4_isColumn ml_RX4_87 (Nat.le_of_ble_eq_true rfl) rfl rfl (t_X4_isColumn _ K.nt K.ad (sI σ 0 0 (0 : Int32)) a0 v1 h2) (Nat.le_of_ble_eq_true rfl) (by decide) (by decide) dX4_sort_7 ?_
  refine v_if_ne (pc := 10) (tgt := 19) K dX4_sort_10 (by decide) (fun c3 => ?_) (fun c3 => ?_)
  · have h := ie c3 h
    refine v_aload0 (pc := 19) K dX4_sort_19 ?_
    refine v_ic0 (pc := 20) K dX4_sort_20 ?_
    refine v_put (pc := 21) K fw_RX4_276 dX4_sort_21 rfl rfl (Nat.le_of_ble_eq_true rfl) rfl rfl ?_
    refine v_ic0 (pc := 24) K dX4_sort_24 ?_
    refine v_istore3 (pc := 25) K dX4_sort_25 rfl (Nat.le_of_ble_eq_true rfl) ?_
    obtain ⟨r5, h7, h⟩ := bd h
    have hJ6 : V (mkX M YM E base 5 (.ok (some (.int r.1))) r.2) r5 110 [some (.ref (E.2.2 0)), none, none, none, none] [] := by
      refine v_aload0 (pc := 110) K dX4_sort_110 ?_
      obtain ⟨v32, h33, h⟩ := bd h
      refine v_cV0I (pc := 111)  K ca_yX4_puts ml_RX4_287 (Nat.le_of_ble_eq_true rfl) rfl rfl (t_X4_puts _ K.nt K.ad r5 v32 h33) (Nat.le_of_ble_eq_true rfl) (by decide) (by decide) dX4_sort_111 ?_
      cases h
      exact v_iret (pc := 114) K dX4_sort_114 rfl rfl
    clear h
    have hL34 := lpv h7 (fun s4 : Int32 × St => V (mkX M YM E base 5 (.ok (some (.int r.1))) r.2) s4.2 26 [some (.ref (E.2.2 0)), some (.int a0), some (.int a1), some (.int s4.1), none] [])
    refine hL34 (fun s4 o h hk => ?_)
    refine v_iload3 (pc := 26) K dX4_sort_26 ?_
    refine v_aload0 (pc := 27) K dX4_sort_27 ?_
    refine v_getI (pc := 28) K fl_RX4_80 dX4_sort_28 (Nat.le_of_ble_eq_true rfl) rfl rfl ?_
    refine v_icmp_ge (pc := 31) (tgt := 110) K dX4_sort_31 (by decide) (fun c11 => ?_) (fun c11 => ?_)
    · have h := it c11 h
      have e := lx h hk
      cases e
      exact v_fg [true, false, false, false, true] hJ6
    · have h := ie c11 h
      refine v_aload0 (pc := 34) K dX4_sort_34 ?_
      refine v_getI (pc := 35) K fl_RX4_276 dX4_sort_35 (Nat.le_of_ble_eq_true rfl) rfl rfl ?_
      refine v_istore4 (pc := 38) K dX4_sort_38 rfl (Nat.le_of_ble_eq_true rfl) ?_
      obtain ⟨r13, h15, h⟩ := bd h
      have hJ14 : V (mkX M YM E base 5 (.ok (some (.int r.1))) r.2) r13.2 86 [some (.ref (E.2.2 0)), some (.int a0), some (.int a1), some (.int s4.1), some (.int r13.1)] [] := by
        refine v_aload0 (pc := 86) K dX4_sort_86 ?_
        refine v_getR (pc := 87) K fl_RX4_39 dX4_sort_87 (Nat.le_of_ble_eq_true rfl) rfl rfl ?_
        refine v_iload4 (pc := 90) K dX4_sort_90 ?_
        refine v_iload3 (pc := 92) K dX4_sort_92 ?_
        obtain ⟨j29, h30, h⟩ := bd h
        refine v_iastore (pc := 93) K dX4_sort_93 (Nat.le_of_ble_eq_true rfl) rfl h30 ?_
        refine v_aload0 (pc := 94) K dX4_sort_94 ?_
        refine v_dupR (pc := 95) K dX4_sort_95 ?_
        refine v_getI (pc := 96) K fl_RX4_276 dX4_sort_96 (Nat.le_of_ble_eq_true rfl) rfl rfl ?_
        refine v_ic1 (pc := 99) K dX4_sort_99 ?_
        refine v_iadd (pc := 100) K dX4_sort_100 ?_
        refine v_put (pc := 101) K fw_RX4_276 dX4_sort_101 rfl rfl (Nat.le_of_ble_eq_true rfl) rfl rfl ?_
        refine v_iinc3 (pc := 104) (w := 1) K dX4_sort_104 rfl (Nat.le_of_ble_eq_true rfl) (by decide) ?_
        refine v_goto (pc := 107) (tgt := 26) K dX4_sort_107 (by decide) ?_
        have e := lfc h hk
        exact v_fg [true, true, true, true, false] e
      clear h
      have hL31 := lpv h15 (fun s12 : Int32 × St => V (mkX M YM E base 5 (.ok (some (.int r.1))) r.2) s12.2 40 [some (.ref (E.2.2 0)), some (.int a0), some (.int a1), some (.int s4.1), some (.int s12.1)] [])
      refine hL31 (fun s12 o h hk => ?_)
      refine v_iload4 (pc := 40) K dX4_sort_40 ?_
      refine v_if_le (pc := 42) (tgt := 86) K dX4_sort_42 (by decide) (fun c19 => ?_) (fun c19 => ?_)
      · have h := it c19 h
        have e := lx h hk
        cases e
        exact hJ14
      · have h := ie c19 h
        refine v_aload0 (pc := 45) K dX4_sort_45 ?_
        refine v_iload1 (pc := 46) K dX4_sort_46 ?_
        refine v_iload3 (pc := 47) K dX4_sort_47 ?_
        refine v_aload0 (pc := 48) K dX4_sort_48 ?_
        refine v_getR (pc := 49) K fl_RX4_39 dX4_sort_49 (Nat.le_of_ble_eq_true rfl) rfl rfl ?_
        refine v_iload4 (pc := 52) K dX4_sort_52 ?_
        refine v_ic1 (pc := 54) K dX4_sort_54 ?_
        refine v_isub (pc := 55) K dX4_sort_55 ?_
        obtain ⟨j20, h21, h⟩ := bd h
        refine v_iaload (pc := 56) K dX4_sort_56 (Nat.le_of_ble_eq_true rfl) rfl h21 ?_
        refine v_iload2 (pc := 57) K dX4_sort_57 ?_
        obtain ⟨v22, h23, h⟩ := bd h
        refine v_cV4I (pc := 58)  K ca_yX4_goesAhead ml_RX4_290 (Nat.le_of_ble_eq_true rfl) rfl rfl (t_X4_goesAhead _ K.nt K.ad s12.2 a0 s4.1 (s12.2.1 10 j20) a1 v22 h23) (Nat.le_of_ble_eq_true rfl) (by decide) (by decide) dX4_sort_58 ?_
        refine v_if_eq (pc := 61) (tgt := 86) K dX4_sort_61 (by decide) (fun c24 => ?_) (fun c24 => ?_)
        · have h := it c24 h
          have e := lx h hk
          cases e
          exact hJ14
        · have h := ie c24 h
          refine v_aload0 (pc := 64) K dX4_sort_64 ?_
          refine v_getR (pc := 65) K fl_RX4_39 dX4_sort_65 (Nat.le_of_ble_eq_true rfl) rfl rfl ?_
          refine v_iload4 (pc := 68) K dX4_sort_68 ?_
          refine v_aload0 (pc := 70) K dX4_sort_70 ?_
          refine v_getR (pc := 71) K fl_RX4_39 dX4_sort_71 (Nat.le_of_ble_eq_true rfl) rfl rfl ?_
          refine v_iload4 (pc := 74) K dX4_sort_74 ?_
          refine v_ic1 (pc := 76) K dX4_sort_76 ?_
          refine v_isub (pc := 77) K dX4_sort_77 ?_
          obtain ⟨j25, h26, h⟩ := bd h
          refine v_iaload (pc := 78) K dX4_sort_78 (Nat.le_of_ble_eq_true rfl) rfl h26 ?_
          obtain ⟨j27, h28, h⟩ := bd h
          refine v_iastore (pc := 79) K dX4_sort_79 (Nat.le_of_ble_eq_true rfl) rfl h28 ?_
          refine v_iinc4 (pc := 80) (w := (-1)) K dX4_sort_80 rfl (Nat.le_of_ble_eq_true rfl) (by decide) ?_
          refine v_goto (pc := 83) (tgt := 40) K dX4_sort_83 (by decide) ?_
          have e := lfc h hk
          exact e
  · have h := it c3 h
    refine v_aload0 (pc := 13) K dX4_sort_13 ?_
    refine v_ic1 (pc := 14) K dX4_sort_14 ?_
    obtain ⟨v35, h36, h⟩ := bd h
    refine v_cV1I (pc := 15)  K ca_yX4_fails ml_RX4_105 (Nat.le_of_ble_eq_true rfl) rfl rfl (t_X4_fails _ K.nt K.ad (sI σ 0 0 (0 : Int32)) (1 : Int32) v35 h36) (Nat.le_of_ble_eq_true rfl) (by decide) (by decide) dX4_sort_15 ?_
    cases h
    exact v_iret (pc := 18) K dX4_sort_18 rfl rfl
set_option maxRecDepth 100000 in
def m_X4_reverse (σ : St) : Option (Int32 × St) :=
  ((lp 5000 (fun (s1 : Int32 × St) => (if s1.1 < 0 then some (.inr s1.2) else ((m_X4_orders s1.2 s1.1).bind fun v9 => some (.inl ((s1.1 + (-1)), v9))))) (((sI (sI σ 0 0 (0 : Int32)) 0 16 (0 : Int32)).1 0 5 - (1 : Int32)), (sI (sI σ 0 0 (0 : Int32)) 0 16 (0 : Int32)))).bind fun (r2 : St) => ((m_X4_puts r2).bind fun v11 => some (v11.2.1 0 5, v11.2)))
set_option maxHeartbeats 4000000 in
set_option maxRecDepth 100000 in
theorem t_X4_reverse (l : Launch) (hnt : l.stackTraces = false) {E : Ev} {base : Nat} (hE : Adr YM E base) (σ : St) (r : Int32 × St) (h : m_X4_reverse σ = some r) : Ctr l yX4_reverse cX4_reverse 2 (some .int) 2 43 YM E base [.ref (E.2.2 0)] σ (.ok (some (.int r.1))) r.2 := by
  unfold m_X4_reverse at h
  refine ofV 1 (by decide +kernel) rfl hE hnt (Nat.le_of_ble_eq_true rfl) rfl (fun M hN K => ?_)
  refine v_aload0 (pc := 0) K dX4_reverse_0 ?_
  refine v_ic0 (pc := 1) K dX4_reverse_1 ?_
  refine v_put (pc := 2) K fw_RX4_69 dX4_reverse_2 rfl rfl (Nat.le_of_ble_eq_true rfl) rfl rfl ?_
  refine v_aload0 (pc := 5) K dX4_reverse_5 ?_
  refine v_ic0 (pc := 6) K dX4_reverse_6 ?_
  refine v_put (pc := 7) K fw_RX4_276 dX4_reverse_7 rfl rfl (Nat.le_of_ble_eq_true rfl) rfl rfl ?_
  refine v_aload0 (pc := 10) K dX4_reverse_10 ?_
  refine v_getI (pc := 11) K fl_RX4_80 dX4_reverse_11 (Nat.le_of_ble_eq_true rfl) rfl rfl ?_
  refine v_ic1 (pc := 14) K dX4_reverse_14 ?_
  refine v_isub (pc := 15) K dX4_reverse_15 ?_
  refine v_istore1 (pc := 16) K dX4_reverse_16 rfl (Nat.le_of_ble_eq_true rfl) ?_
  obtain ⟨r2, h4, h⟩ := bd h
  have hJ3 : V (mkX M YM E base 2 (.ok (some (.int r.1))) r.2) r2 32 [some (.ref (E.2.2 0)), none] [] := by
    refine v_aload0 (pc := 32) K dX4_reverse_32 ?_
    obtain ⟨v11, h12, h⟩ := bd h
    refine v_cV0I (pc := 33)  K ca_yX4_puts ml_RX4_287 (Nat.le_of_ble_eq_true rfl) rfl rfl (t_X4_puts _ K.nt K.ad r2 v11 h12) (Nat.le_of_ble_eq_true rfl) (by decide) (by decide) dX4_reverse_33 ?_
    refine v_istore1 (pc := 36) K dX4_reverse_36 rfl (Nat.le_of_ble_eq_true rfl) ?_
    refine v_aload0 (pc := 37) K dX4_reverse_37 ?_
    refine v_getI (pc := 38) K fl_RX4_80 dX4_reverse_38 (Nat.le_of_ble_eq_true rfl) rfl rfl ?_
    cases h
    exact v_iret (pc := 41) K dX4_reverse_41 rfl rfl
  clear h
  have hL13 := lpv h4 (fun s1 : Int32 × St => V (mkX M YM E base 2 (.ok (some (.int r.1))) r.2) s1.2 17 [some (.ref (E.2.2 0)), some (.int s1.1)] [])
  refine hL13 (fun s1 o h hk => ?_)
  refine v_iload1 (pc := 17) K dX4_reverse_17 ?_
  refine v_if_lt (pc := 18) (tgt := 32) K dX4_reverse_18 (by decide) (fun c8 => ?_) (fun c8 => ?_)
  · have h := it c8 h
    have e := lx h hk
    cases e
    exact v_fg [true, false] hJ3
  · have h := ie c8 h
    refine v_aload0 (pc := 21) K dX4_reverse_21 ?_
    refine v_iload1 (pc := 22) K dX4_reverse_22 ?_
    obtain ⟨v9, h10, h⟩ := bd h
    refine v_cV1U (pc := 23)  K ca_yX4_orders ml_RX4_279 (Nat.le_of_ble_eq_true rfl) rfl rfl (t_X4_orders _ K.nt K.ad s1.2 s1.1 v9 h10) (Nat.le_of_ble_eq_true rfl) (by decide) (by decide) dX4_reverse_23 ?_
    refine v_iinc1 (pc := 26) (w := (-1)) K dX4_reverse_26 rfl (Nat.le_of_ble_eq_true rfl) (by decide) ?_
    refine v_goto (pc := 29) (tgt := 17) K dX4_reverse_29 (by decide) ?_
    have e := lfc h hk
    exact e
set_option maxRecDepth 100000 in
def m_X4_swap (σ : St) (a0 : Int32) (a1 : Int32) : Option (Int32 × St) :=
  ((m_X4_isColumn (sI σ 0 0 (0 : Int32)) a0).bind fun v1 => (if v1 = 0 then ((m_X4_fails (sI σ 0 0 (0 : Int32)) (1 : Int32)).bind fun v4 => some (v4.1, v4.2)) else ((m_X4_isColumn (sI σ 0 0 (0 : Int32)) a1).bind fun v6 => (if v6 = 0 then ((m_X4_fails (sI σ 0 0 (0 : Int32)) (1 : Int32)).bind fun v60 => some (v60.1, v60.2)) else ((ix a0 6).bind fun j9 => ((ix a1 6).bind fun j11 => ((ix a0 6).bind fun j13 => ((ix a1 6).bind fun j15 => ((lp 5000 (fun (s17 : Int32 × St) => (if (192 : Int32) ≤ s17.1 then some (.inr s17.2) else ((m_X4_at s17.2 a0 s17.1).bind fun v25 => ((ix v25 1152).bind fun j27 => ((m_X4_at s17.2 a0 s17.1).bind fun v29 => ((m_X4_at s17.2 a1 s17.1).bind fun v31 => ((ix v31 1152).bind fun j33 => ((ix v29 1152).bind fun j35 => ((m_X4_at (sL s17.2 1 j35 (s17.2.2 1 j33)) a1 s17.1).bind fun v37 => ((ix v37 1152).bind fun j39 => ((m_X4_at (sL (sL s17.2 1 j35 (s17.2.2 1 j33)) 1 j39 (s17.2.2 1 j27)) a0 s17.1).bind fun v41 => ((ix v41 1152).bind fun j43 => ((m_X4_at (sL (sL s17.2 1 j35 (s17.2.2 1 j33)) 1 j39 (s17.2.2 1 j27)) a0 s17.1).bind fun v45 => ((m_X4_at (sL (sL s17.2 1 j35 (s17.2.2 1 j33)) 1 j39 (s17.2.2 1 j27)) a1 s17.1).bind fun v47 => ((ix v47 1152).bind fun j49 => ((ix v45 1152).bind fun j51 => ((m_X4_at (sI (sL (sL s17.2 1 j35 (s17.2.2 1 j33)) 1 j39 (s17.2.2 1 j27)) 2 j51 (nz ((sL (sL s17.2 1 j35 (s17.2.2 1 j33)) 1 j39 (s17.2.2 1 j27)).1 2 j49))) a1 s17.1).bind fun v53 => ((ix v53 1152).bind fun j55 => some (.inl ((s17.1 + 1), (sI (sI (sL (sL s17.2 1 j35 (s17.2.2 1 j33)) 1 j39 (s17.2.2 1 j27)) 2 j51 (nz ((sL (sL s17.2 1 j35 (s17.2.2 1 j33)) 1 j39 (s17.2.2 1 j27)).1 2 j49))) 2 j55 (nz ((sL (sL s17.2 1 j35 (s17.2.2 1 j33)) 1 j39 (s17.2.2 1 j27)).1 2 j43))))))))))))))))))))))) ((0 : Int32), (sI (sI (sI σ 0 0 (0 : Int32)) 3 j13 ((sI σ 0 0 (0 : Int32)).1 3 j11)) 3 j15 ((sI σ 0 0 (0 : Int32)).1 3 j9)))).bind fun (r18 : St) => ((ix a0 6).bind fun j57 => some (r18.1 3 j57, r18)))))))))))
set_option maxHeartbeats 4000000 in
set_option maxRecDepth 100000 in
theorem t_X4_swap (l : Launch) (hnt : l.stackTraces = false) {E : Ev} {base : Nat} (hE : Adr YM E base) (σ : St) (a0 : Int32) (a1 : Int32) (r : Int32 × St) (h : m_X4_swap σ a0 a1 = some r) : Ctr l yX4_swap cX4_swap 8 (some .int) 2 46 YM E base [.ref (E.2.2 0), .int a0, .int a1] σ (.ok (some (.int r.1))) r.2 := by
  unfold m_X4_swap at h
  refine ofV 5 (by decide +kernel) rfl hE hnt (Nat.le_of_ble_eq_true rfl) rfl (fun M hN K => ?_)
  refine v_aload0 (pc := 0) K dX4_swap_0 ?_
  refine v_ic0 (pc := 1) K dX4_swap_1 ?_
  refine v_put (pc := 2) K fw_RX4_69 dX4_swap_2 rfl rfl (Nat.le_of_ble_eq_true rfl) rfl rfl ?_
  refine v_aload0 (pc := 5) K dX4_swap_5 ?_
  refine v_iload1 (pc := 6) K dX4_swap_6 ?_
  obtain ⟨v1, h2, h⟩ := bd h
  refine v_cV1I (pc := 7)  K ca_yX4_isColumn ml_RX4_87 (Nat.le_of_ble_eq_true rfl) rfl rfl (t_X4_isColumn _ K.nt K.ad (sI σ 0 0 (0 : Int32)) a0 v1 h2) (Nat.le_of_ble_eq_true rfl) (by decide) (by decide) dX4_swap_7 ?_
  refine v_if_eq (pc := 10) (tgt := 21) K dX4_swap_10 (by decide) (fun c3 => ?_) (fun c3 => ?_)
  · have h := it c3 h
    refine v_aload0 (pc := 21) K dX4_swap_21 ?_
    refine v_ic1 (pc := 22) K dX4_swap_22 ?_
    obtain ⟨v4, h5, h⟩ := bd h
    refine v_cV1I (pc := 23)  K ca_yX4_fails ml_RX4_105 (Nat.le_of_ble_eq_true rfl) rfl rfl (t_X4_fails _ K.nt K.ad (sI σ 0 0 (0 : Int32)) (1 : Int32) v4 h5) (Nat.le_of_ble_eq_true rfl) (by decide) (by decide) dX4_swap_23 ?_
    cases h
    exact v_iret (pc := 26) K dX4_swap_26 rfl rfl
  · have h := ie c3 h
    refine v_aload0 (pc := 13) K dX4_swap_13 ?_
    refine v_iload2 (pc := 14) K dX4_swap_14 ?_
    obtain ⟨v6, h7, h⟩ := bd h
    refine v_cV1I (pc := 15)  K ca_yX4_isColumn ml_RX4_87 (Nat.le_of_ble_eq_true rfl) rfl rfl (t_X4_isColumn _ K.nt K.ad (sI σ 0 0 (0 : Int32)) a1 v6 h7) (Nat.le_of_ble_eq_true rfl) (by decide) (by decide) dX4_swap_15 ?_
    refine v_if_ne (pc := 18) (tgt := 27) K dX4_swap_18 (by decide) (fun c8 => ?_) (fun c8 => ?_)
    · have h := ie c8 h
      refine v_aload0 (pc := 27) K dX4_swap_27 ?_
      refine v_getR (pc := 28) K fl_RX4_17 dX4_swap_28 (Nat.le_of_ble_eq_true rfl) rfl rfl ?_
      refine v_iload1 (pc := 31) K dX4_swap_31 ?_
      obtain ⟨j9, h10, h⟩ := bd h
      refine v_iaload (pc := 32) K dX4_swap_32 (Nat.le_of_ble_eq_true rfl) rfl h10 ?_
      refine v_istore3 (pc := 33) K dX4_swap_33 rfl (Nat.le_of_ble_eq_true rfl) ?_
      refine v_aload0 (pc := 34) K dX4_swap_34 ?_
      refine v_getR (pc := 35) K fl_RX4_17 dX4_swap_35 (Nat.le_of_ble_eq_true rfl) rfl rfl ?_
      refine v_iload1 (pc := 38) K dX4_swap_38 ?_
      refine v_aload0 (pc := 39) K dX4_swap_39 ?_
      refine v_getR (pc := 40) K fl_RX4_17 dX4_swap_40 (Nat.le_of_ble_eq_true rfl) rfl rfl ?_
      refine v_iload2 (pc := 43) K dX4_swap_43 ?_
      obtain ⟨j11, h12, h⟩ := bd h
      refine v_iaload (pc := 44) K dX4_swap_44 (Nat.le_of_ble_eq_true rfl) rfl h12 ?_
      obtain ⟨j13, h14, h⟩ := bd h
      refine v_iastore (pc := 45) K dX4_swap_45 (Nat.le_of_ble_eq_true rfl) rfl h14 ?_
      refine v_aload0 (pc := 46) K dX4_swap_46 ?_
      refine v_getR (pc := 47) K fl_RX4_17 dX4_swap_47 (Nat.le_of_ble_eq_true rfl) rfl rfl ?_
      refine v_iload2 (pc := 50) K dX4_swap_50 ?_
      refine v_iload3 (pc := 51) K dX4_swap_51 ?_
      obtain ⟨j15, h16, h⟩ := bd h
      refine v_iastore (pc := 52) K dX4_swap_52 (Nat.le_of_ble_eq_true rfl) rfl h16 ?_
      refine v_ic0 (pc := 53) K dX4_swap_53 ?_
      refine v_istore4 (pc := 54) K dX4_swap_54 rfl (Nat.le_of_ble_eq_true rfl) ?_
      obtain ⟨r18, h20, h⟩ := bd h
      have hJ19 : V (mkX M YM E base 8 (.ok (some (.int r.1))) r.2) r18 166 [some (.ref (E.2.2 0)), some (.int a0), none, none, none, none, none, none] [] := by
        refine v_aload0 (pc := 166) K dX4_swap_166 ?_
        refine v_getR (pc := 167) K fl_RX4_17 dX4_swap_167 (Nat.le_of_ble_eq_true rfl) rfl rfl ?_
        refine v_iload1 (pc := 170) K dX4_swap_170 ?_
        obtain ⟨j57, h58, h⟩ := bd h
        refine v_iaload (pc := 171) K dX4_swap_171 (Nat.le_of_ble_eq_true rfl) rfl h58 ?_
        cases h
        exact v_iret (pc := 172) K dX4_swap_172 rfl rfl
      clear h
      refine v_fg [true, true, true, false, true, true, true, true] ?_
      have hL59 := lpv h20 (fun s17 : Int32 × St => V (mkX M YM E base 8 (.ok (some (.int r.1))) r.2) s17.2 56 [some (.ref (E.2.2 0)), some (.int a0), some (.int a1), none, some (.int s17.1), none, none, none] [])
      refine hL59 (fun s17 o h hk => ?_)
      refine v_iload4 (pc := 56) K dX4_swap_56 ?_
      refine v_sipush (pc := 58) (v := 192) K dX4_swap_58 (by decide) ?_
      refine v_icmp_ge (pc := 61) (tgt := 166) K dX4_swap_61 (by decide) (fun c24 => ?_) (fun c24 => ?_)
      · have h := it c24 h
        have e := lx h hk
        cases e
        exact v_fg [true, true, false, true, false, true, true, true] hJ19
      · have h := ie c24 h
        refine v_aload0 (pc := 64) K dX4_swap_64 ?_
        refine v_getR (pc := 65) K fl_RX4_7 dX4_swap_65 (Nat.le_of_ble_eq_true rfl) rfl rfl ?_
        refine v_iload1 (pc := 68) K dX4_swap_68 ?_
        refine v_iload4 (pc := 69) K dX4_swap_69 ?_
        obtain ⟨v25, h26, h⟩ := bd h
        refine v_cS2I (pc := 71)  K ca_yX4_at ml_RX4_94 (t_X4_at _ K.nt K.ad s17.2 a0 s17.1 v25 h26) (Nat.le_of_ble_eq_true rfl) (by decide) (by decide) dX4_swap_71 ?_
        obtain ⟨j27, h28, h⟩ := bd h
        refine v_laload (pc := 74) K dX4_swap_74 (Nat.le_of_ble_eq_true rfl) rfl h28 ?_
        refine v_lstore5 (pc := 75) K dX4_swap_75 rfl (Nat.le_of_ble_eq_true rfl) ?_
        refine v_aload0 (pc := 77) K dX4_swap_77 ?_
        refine v_getR (pc := 78) K fl_RX4_7 dX4_swap_78 (Nat.le_of_ble_eq_true rfl) rfl rfl ?_
        refine v_iload1 (pc := 81) K dX4_swap_81 ?_
        refine v_iload4 (pc := 82) K dX4_swap_82 ?_
        obtain ⟨v29, h30, h⟩ := bd h
        refine v_cS2I (pc := 84)  K ca_yX4_at ml_RX4_94 (t_X4_at _ K.nt K.ad s17.2 a0 s17.1 v29 h30) (Nat.le_of_ble_eq_true rfl) (by decide) (by decide) dX4_swap_84 ?_
        refine v_aload0 (pc := 87) K dX4_swap_87 ?_
        refine v_getR (pc := 88) K fl_RX4_7 dX4_swap_88 (Nat.le_of_ble_eq_true rfl) rfl rfl ?_
        refine v_iload2 (pc := 91) K dX4_swap_91 ?_
        refine v_iload4 (pc := 92) K dX4_swap_92 ?_
        obtain ⟨v31, h32, h⟩ := bd h
        refine v_cS2I (pc := 94)  K ca_yX4_at ml_RX4_94 (t_X4_at _ K.nt K.ad s17.2 a1 s17.1 v31 h32) (Nat.le_of_ble_eq_true rfl) (by decide) (by decide) dX4_swap_94 ?_
        obtain ⟨j33, h34, h⟩ := bd h
        refine v_laload (pc := 97) K dX4_swap_97 (Nat.le_of_ble_eq_true rfl) rfl h34 ?_
        obtain ⟨j35, h36, h⟩ := bd h
        refine v_lastore (pc := 98) K dX4_swap_98 (Nat.le_of_ble_eq_true rfl) rfl h36 ?_
        refine v_aload0 (pc := 99) K dX4_swap_99 ?_
        refine v_getR (pc := 100) K fl_RX4_7 dX4_swap_100 (Nat.le_of_ble_eq_true rfl) rfl rfl ?_
        refine v_iload2 (pc := 103) K dX4_swap_103 ?_
        refine v_iload4 (pc := 104) K dX4_swap_104 ?_
        obtain ⟨v37, h38, h⟩ := bd h
        refine v_cS2I (pc := 106)  K ca_yX4_at ml_RX4_94 (t_X4_at _ K.nt K.ad (sL s17.2 1 j35 (s17.2.2 1 j33)) a1 s17.1 v37 h38) (Nat.le_of_ble_eq_true rfl) (by decide) (by decide) dX4_swap_106 ?_
        refine v_lload5 (pc := 109) K dX4_swap_109 ?_
        obtain ⟨j39, h40, h⟩ := bd h
        refine v_lastore (pc := 111) K dX4_swap_111 (Nat.le_of_ble_eq_true rfl) rfl h40 ?_
        refine v_aload0 (pc := 112) K dX4_swap_112 ?_
        refine v_getR (pc := 113) K fl_RX4_13 dX4_swap_113 (Nat.le_of_ble_eq_true rfl) rfl rfl ?_
        refine v_iload1 (pc := 116) K dX4_swap_116 ?_
        refine v_iload4 (pc := 117) K dX4_swap_117 ?_
        obtain ⟨v41, h42, h⟩ := bd h
        refine v_cS2I (pc := 119)  K ca_yX4_at ml_RX4_94 (t_X4_at _ K.nt K.ad (sL (sL s17.2 1 j35 (s17.2.2 1 j33)) 1 j39 (s17.2.2 1 j27)) a0 s17.1 v41 h42) (Nat.le_of_ble_eq_true rfl) (by decide) (by decide) dX4_swap_119 ?_
        obtain ⟨j43, h44, h⟩ := bd h
        refine v_zaload (pc := 122) K dX4_swap_122 (Nat.le_of_ble_eq_true rfl) rfl h44 ?_
        refine v_istore7 (pc := 123) K dX4_swap_123 rfl (Nat.le_of_ble_eq_true rfl) ?_
        refine v_aload0 (pc := 125) K dX4_swap_125 ?_
        refine v_getR (pc := 126) K fl_RX4_13 dX4_swap_126 (Nat.le_of_ble_eq_true rfl) rfl rfl ?_
        refine v_iload1 (pc := 129) K dX4_swap_129 ?_
        refine v_iload4 (pc := 130) K dX4_swap_130 ?_
        obtain ⟨v45, h46, h⟩ := bd h
        refine v_cS2I (pc := 132)  K ca_yX4_at ml_RX4_94 (t_X4_at _ K.nt K.ad (sL (sL s17.2 1 j35 (s17.2.2 1 j33)) 1 j39 (s17.2.2 1 j27)) a0 s17.1 v45 h46) (Nat.le_of_ble_eq_true rfl) (by decide) (by decide) dX4_swap_132 ?_
        refine v_aload0 (pc := 135) K dX4_swap_135 ?_
        refine v_getR (pc := 136) K fl_RX4_13 dX4_swap_136 (Nat.le_of_ble_eq_true rfl) rfl rfl ?_
        refine v_iload2 (pc := 139) K dX4_swap_139 ?_
        refine v_iload4 (pc := 140) K dX4_swap_140 ?_
        obtain ⟨v47, h48, h⟩ := bd h
        refine v_cS2I (pc := 142)  K ca_yX4_at ml_RX4_94 (t_X4_at _ K.nt K.ad (sL (sL s17.2 1 j35 (s17.2.2 1 j33)) 1 j39 (s17.2.2 1 j27)) a1 s17.1 v47 h48) (Nat.le_of_ble_eq_true rfl) (by decide) (by decide) dX4_swap_142 ?_
        obtain ⟨j49, h50, h⟩ := bd h
        refine v_zaload (pc := 145) K dX4_swap_145 (Nat.le_of_ble_eq_true rfl) rfl h50 ?_
        obtain ⟨j51, h52, h⟩ := bd h
        refine v_zastore (pc := 146) K dX4_swap_146 (Nat.le_of_ble_eq_true rfl) rfl h52 ?_
        refine v_aload0 (pc := 147) K dX4_swap_147 ?_
        refine v_getR (pc := 148) K fl_RX4_13 dX4_swap_148 (Nat.le_of_ble_eq_true rfl) rfl rfl ?_
        refine v_iload2 (pc := 151) K dX4_swap_151 ?_
        refine v_iload4 (pc := 152) K dX4_swap_152 ?_
        obtain ⟨v53, h54, h⟩ := bd h
        refine v_cS2I (pc := 154)  K ca_yX4_at ml_RX4_94 (t_X4_at _ K.nt K.ad (sI (sL (sL s17.2 1 j35 (s17.2.2 1 j33)) 1 j39 (s17.2.2 1 j27)) 2 j51 (nz ((sL (sL s17.2 1 j35 (s17.2.2 1 j33)) 1 j39 (s17.2.2 1 j27)).1 2 j49))) a1 s17.1 v53 h54) (Nat.le_of_ble_eq_true rfl) (by decide) (by decide) dX4_swap_154 ?_
        refine v_iload7 (pc := 157) K dX4_swap_157 ?_
        obtain ⟨j55, h56, h⟩ := bd h
        refine v_zastore (pc := 159) K dX4_swap_159 (Nat.le_of_ble_eq_true rfl) rfl h56 ?_
        refine v_iinc4 (pc := 160) (w := 1) K dX4_swap_160 rfl (Nat.le_of_ble_eq_true rfl) (by decide) ?_
        refine v_goto (pc := 163) (tgt := 56) K dX4_swap_163 (by decide) ?_
        have e := lfc h hk
        exact v_fg [true, true, true, true, true, false, true, false] e
    · have h := it c8 h
      refine v_aload0 (pc := 21) K dX4_swap_21 ?_
      refine v_ic1 (pc := 22) K dX4_swap_22 ?_
      obtain ⟨v60, h61, h⟩ := bd h
      refine v_cV1I (pc := 23)  K ca_yX4_fails ml_RX4_105 (Nat.le_of_ble_eq_true rfl) rfl rfl (t_X4_fails _ K.nt K.ad (sI σ 0 0 (0 : Int32)) (1 : Int32) v60 h61) (Nat.le_of_ble_eq_true rfl) (by decide) (by decide) dX4_swap_23 ?_
      cases h
      exact v_iret (pc := 26) K dX4_swap_26 rfl rfl
