set_option maxRecDepth 100000 in
def m_X4_kth (σ : St) (a0 : Int32) (a1 : Int32) (a2 : Int32) : Option (Int64 × St) :=
  ((m_X4_areIn (sI σ 0 0 (0 : Int32)) a0 a1).bind fun v1 => (if v1 = 0 then ((m_X4_fails (sI σ 0 0 (0 : Int32)) (1 : Int32)).bind fun v18 => some ((v18.1).toInt64, v18.2)) else ((m_X4_lists (sI σ 0 0 (0 : Int32)) a0 a1).bind fun v4 => ((if 0 ≤ a2 then some ((a2).toInt64) else some ((v4.1 0 10).toInt64 + (a2).toInt64)).bind fun (t6 : Int64) => ((m_X4_isIn v4 t6 (0 : Int64) (((v4.1 0 10 - (1 : Int32))).toInt64)).bind fun v10 => ((if v10 = 0 then some ((-9223372036854775808) : Int64) else ((ix ((t6).toInt32) 192).bind fun j16 => some (v4.2 6 j16))).bind fun (t12 : Int64) => some (t12, v4)))))))
set_option maxHeartbeats 4000000 in
set_option maxRecDepth 100000 in
theorem t_X4_kth (l : Launch) (hnt : l.stackTraces = false) {E : Ev} {base : Nat} (hE : Adr YM E base) (σ : St) (a0 : Int32) (a1 : Int32) (a2 : Int32) (r : Int64 × St) (h : m_X4_kth σ a0 a1 a2 = some r) : Ctr l yX4_kth cX4_kth 6 (some .long) 3 70 YM E base [.ref (E.2.2 0), .int a0, .int a1, .int a2] σ (.ok (some (.long r.1))) r.2 := by
  unfold m_X4_kth at h
  refine ofV 2 (by decide +kernel) rfl hE hnt (Nat.le_of_ble_eq_true rfl) rfl (fun M hN K => ?_)
  refine v_aload0 (pc := 0) K dX4_kth_0 ?_
  refine v_ic0 (pc := 1) K dX4_kth_1 ?_
  refine v_put (pc := 2) K fw_RX4_69 dX4_kth_2 rfl rfl (Nat.le_of_ble_eq_true rfl) rfl rfl ?_
  refine v_aload0 (pc := 5) K dX4_kth_5 ?_
  refine v_iload1 (pc := 6) K dX4_kth_6 ?_
  refine v_iload2 (pc := 7) K dX4_kth_7 ?_
  obtain ⟨v1, h2, h⟩ := bd h
  refine v_cV2I (pc := 8)  K ca_yX4_areIn ml_RX4_164 (Nat.le_of_ble_eq_true rfl) rfl rfl (t_X4_areIn _ K.nt K.ad (sI σ 0 0 (0 : Int32)) a0 a1 v1 h2) (Nat.le_of_ble_eq_true rfl) (by decide) (by decide) dX4_kth_8 ?_
  refine v_if_ne (pc := 11) (tgt := 21) K dX4_kth_11 (by decide) (fun c3 => ?_) (fun c3 => ?_)
  · have h := ie c3 h
    refine v_aload0 (pc := 21) K dX4_kth_21 ?_
    refine v_iload1 (pc := 22) K dX4_kth_22 ?_
    refine v_iload2 (pc := 23) K dX4_kth_23 ?_
    obtain ⟨v4, h5, h⟩ := bd h
    refine v_cV2U (pc := 24)  K ca_yX4_lists ml_RX4_199 (Nat.le_of_ble_eq_true rfl) rfl rfl (t_X4_lists _ K.nt K.ad (sI σ 0 0 (0 : Int32)) a0 a1 v4 h5) (Nat.le_of_ble_eq_true rfl) (by decide) (by decide) dX4_kth_24 ?_
    refine v_iload3 (pc := 27) K dX4_kth_27 ?_
    obtain ⟨t6, h8, h⟩ := bd h
    have hJ7 : V (mkX M YM E base 6 (.ok (some (.long r.1))) r.2) v4 44 [some (.ref (E.2.2 0)), none, none, none, none, none] [.long t6] := by
      refine v_lstore4 (pc := 44) K dX4_kth_44 rfl (Nat.le_of_ble_eq_true rfl) ?_
      refine v_lload4 (pc := 46) K dX4_kth_46 ?_
      refine v_lc0 (pc := 48) K dX4_kth_48 ?_
      refine v_aload0 (pc := 49) K dX4_kth_49 ?_
      refine v_getI (pc := 50) K fl_RX4_196 dX4_kth_50 (Nat.le_of_ble_eq_true rfl) rfl rfl ?_
      refine v_ic1 (pc := 53) K dX4_kth_53 ?_
      refine v_isub (pc := 54) K dX4_kth_54 ?_
      refine v_i2l (pc := 55) K dX4_kth_55 ?_
      obtain ⟨v10, h11, h⟩ := bd h
      refine v_cS3I (pc := 56)  K ca_yX4_isIn ml_RX4_76 (t_X4_isIn _ K.nt K.ad v4 t6 (0 : Int64) (((v4.1 0 10 - (1 : Int32))).toInt64) v10 h11) (Nat.le_of_ble_eq_true rfl) (by decide) (by decide) dX4_kth_56 ?_
      obtain ⟨t12, h14, h⟩ := bd h
      have hJ13 : V (mkX M YM E base 6 (.ok (some (.long r.1))) r.2) v4 76 [none, none, none, none, none, none] [.long t12] := by
        cases h
        exact v_lret (pc := 76) K dX4_kth_76 rfl rfl
      clear h
      have h := h14
      refine v_if_eq (pc := 59) (tgt := 73) K dX4_kth_59 (by decide) (fun c15 => ?_) (fun c15 => ?_)
      · have h := it c15 h
        refine v_ldc2 (pc := 73) K dX4_kth_73 cl_RX4_127 ?_
        cases h
        exact (v_fg [false, true, true, true, false, true] hJ13)
      · have h := ie c15 h
        refine v_aload0 (pc := 62) K dX4_kth_62 ?_
        refine v_getR (pc := 63) K fl_RX4_27 dX4_kth_63 (Nat.le_of_ble_eq_true rfl) rfl rfl ?_
        refine v_lload4 (pc := 66) K dX4_kth_66 ?_
        refine v_l2i (pc := 68) K dX4_kth_68 ?_
        obtain ⟨j16, h17, h⟩ := bd h
        refine v_laload (pc := 69) K dX4_kth_69 (Nat.le_of_ble_eq_true rfl) rfl h17 ?_
        refine v_goto (pc := 70) (tgt := 76) K dX4_kth_70 (by decide) ?_
        cases h
        exact (v_fg [false, true, true, true, false, true] hJ13)
    clear h
    have h := h8
    refine v_if_ge (pc := 28) (tgt := 42) K dX4_kth_28 (by decide) (fun c9 => ?_) (fun c9 => ?_)
    · have h := it c9 h
      refine v_iload3 (pc := 42) K dX4_kth_42 ?_
      refine v_i2l (pc := 43) K dX4_kth_43 ?_
      cases h
      exact (v_fg [true, false, false, false, true, true] hJ7)
    · have h := ie c9 h
      refine v_aload0 (pc := 31) K dX4_kth_31 ?_
      refine v_getI (pc := 32) K fl_RX4_196 dX4_kth_32 (Nat.le_of_ble_eq_true rfl) rfl rfl ?_
      refine v_i2l (pc := 35) K dX4_kth_35 ?_
      refine v_iload3 (pc := 36) K dX4_kth_36 ?_
      refine v_i2l (pc := 37) K dX4_kth_37 ?_
      refine v_ladd (pc := 38) K dX4_kth_38 ?_
      refine v_goto (pc := 39) (tgt := 44) K dX4_kth_39 (by decide) ?_
      cases h
      exact (v_fg [true, false, false, false, true, true] hJ7)
  · have h := it c3 h
    refine v_aload0 (pc := 14) K dX4_kth_14 ?_
    refine v_ic1 (pc := 15) K dX4_kth_15 ?_
    obtain ⟨v18, h19, h⟩ := bd h
    refine v_cV1I (pc := 16)  K ca_yX4_fails ml_RX4_105 (Nat.le_of_ble_eq_true rfl) rfl rfl (t_X4_fails _ K.nt K.ad (sI σ 0 0 (0 : Int32)) (1 : Int32) v18 h19) (Nat.le_of_ble_eq_true rfl) (by decide) (by decide) dX4_kth_16 ?_
    refine v_i2l (pc := 19) K dX4_kth_19 ?_
    cases h
    exact v_lret (pc := 20) K dX4_kth_20 rfl rfl
set_option maxRecDepth 100000 in
def m_X4_share (σ : St) (a0 : Int32) (a1 : Int32) (a2 : Int32) (a3 : Int32) : Option (Int64 × St) :=
  ((m_X4_areIn (sI σ 0 0 (0 : Int32)) a0 a1).bind fun v1 => (if v1 = 0 then ((m_X4_fails (sI σ 0 0 (0 : Int32)) (1 : Int32)).bind fun v37 => some ((v37.1).toInt64, v37.2)) else ((m_X4_isIn (sI σ 0 0 (0 : Int32)) ((a3).toInt64) (1 : Int64) (1000 : Int64)).bind fun v4 => (if v4 = 0 then ((m_X4_fails (sI σ 0 0 (0 : Int32)) (2 : Int32)).bind fun v7 => some ((v7.1).toInt64, v7.2)) else ((m_X4_isIn (sI σ 0 0 (0 : Int32)) ((a2).toInt64) (0 : Int64) ((a3).toInt64)).bind fun v9 => (if v9 = 0 then ((m_X4_fails (sI σ 0 0 (0 : Int32)) (2 : Int32)).bind fun v35 => some ((v35.1).toInt64, v35.2)) else ((m_X4_lists (sI σ 0 0 (0 : Int32)) a0 a1).bind fun v12 => (eB (lp 5000 (fun (s14 : Int32) => (if v12.1 0 10 ≤ s14 then some (.inr (.inl ())) else (if v12.1 0 10 ≤ (s14 + (1 : Int32)) then (if ((s14 + (1 : Int32)) * a3) < (a2 * v12.1 0 10) then some (.inl (s14 + 1)) else ((ix s14 192).bind fun j24 => some (.inr (.inr (v12.2 6 j24, v12))))) else ((ix (s14 + (1 : Int32)) 192).bind fun j26 => ((ix s14 192).bind fun j28 => (if v12.2 6 j26 = v12.2 6 j28 then some (.inl (s14 + 1)) else (if ((s14 + (1 : Int32)) * a3) < (a2 * v12.1 0 10) then some (.inl (s14 + 1)) else ((ix s14 192).bind fun j32 => some (.inr (.inr (v12.2 6 j32, v12))))))))))) (0 : Int32)) fun (r15 : Unit) => some (((-9223372036854775808) : Int64), v12)))))))))
set_option maxHeartbeats 4000000 in
set_option maxRecDepth 100000 in
theorem t_X4_share (l : Launch) (hnt : l.stackTraces = false) {E : Ev} {base : Nat} (hE : Adr YM E base) (σ : St) (a0 : Int32) (a1 : Int32) (a2 : Int32) (a3 : Int32) (r : Int64 × St) (h : m_X4_share σ a0 a1 a2 a3 = some r) : Ctr l yX4_share cX4_share 6 (some .long) 3 70 YM E base [.ref (E.2.2 0), .int a0, .int a1, .int a2, .int a3] σ (.ok (some (.long r.1))) r.2 := by
  unfold m_X4_share at h
  refine ofV 1 (by decide +kernel) rfl hE hnt (Nat.le_of_ble_eq_true rfl) rfl (fun M hN K => ?_)
  refine v_aload0 (pc := 0) K dX4_share_0 ?_
  refine v_ic0 (pc := 1) K dX4_share_1 ?_
  refine v_put (pc := 2) K fw_RX4_69 dX4_share_2 rfl rfl (Nat.le_of_ble_eq_true rfl) rfl rfl ?_
  refine v_aload0 (pc := 5) K dX4_share_5 ?_
  refine v_iload1 (pc := 6) K dX4_share_6 ?_
  refine v_iload2 (pc := 7) K dX4_share_7 ?_
  obtain ⟨v1, h2, h⟩ := bd h
  refine v_cV2I (pc := 8)  K ca_yX4_areIn ml_RX4_164 (Nat.le_of_ble_eq_true rfl) rfl rfl (t_X4_areIn _ K.nt K.ad (sI σ 0 0 (0 : Int32)) a0 a1 v1 h2) (Nat.le_of_ble_eq_true rfl) (by decide) (by decide) dX4_share_8 ?_
  refine v_if_ne (pc := 11) (tgt := 21) K dX4_share_11 (by decide) (fun c3 => ?_) (fun c3 => ?_)
  · have h := ie c3 h
    refine v_iload4 (pc := 21) K dX4_share_21 ?_
    refine v_i2l (pc := 23) K dX4_share_23 ?_
    refine v_lc1 (pc := 24) K dX4_share_24 ?_
    refine v_ldc2 (pc := 25) K dX4_share_25 cl_RX4_240 ?_
    obtain ⟨v4, h5, h⟩ := bd h
    refine v_cS3I (pc := 28)  K ca_yX4_isIn ml_RX4_76 (t_X4_isIn _ K.nt K.ad (sI σ 0 0 (0 : Int32)) ((a3).toInt64) (1 : Int64) (1000 : Int64) v4 h5) (Nat.le_of_ble_eq_true rfl) (by decide) (by decide) dX4_share_28 ?_
    refine v_if_eq (pc := 31) (tgt := 46) K dX4_share_31 (by decide) (fun c6 => ?_) (fun c6 => ?_)
    · have h := it c6 h
      refine v_aload0 (pc := 46) K dX4_share_46 ?_
      refine v_ic2 (pc := 47) K dX4_share_47 ?_
      obtain ⟨v7, h8, h⟩ := bd h
      refine v_cV1I (pc := 48)  K ca_yX4_fails ml_RX4_105 (Nat.le_of_ble_eq_true rfl) rfl rfl (t_X4_fails _ K.nt K.ad (sI σ 0 0 (0 : Int32)) (2 : Int32) v7 h8) (Nat.le_of_ble_eq_true rfl) (by decide) (by decide) dX4_share_48 ?_
      refine v_i2l (pc := 51) K dX4_share_51 ?_
      cases h
      exact v_lret (pc := 52) K dX4_share_52 rfl rfl
    · have h := ie c6 h
      refine v_iload3 (pc := 34) K dX4_share_34 ?_
      refine v_i2l (pc := 35) K dX4_share_35 ?_
      refine v_lc0 (pc := 36) K dX4_share_36 ?_
      refine v_iload4 (pc := 37) K dX4_share_37 ?_
      refine v_i2l (pc := 39) K dX4_share_39 ?_
      obtain ⟨v9, h10, h⟩ := bd h
      refine v_cS3I (pc := 40)  K ca_yX4_isIn ml_RX4_76 (t_X4_isIn _ K.nt K.ad (sI σ 0 0 (0 : Int32)) ((a2).toInt64) (0 : Int64) ((a3).toInt64) v9 h10) (Nat.le_of_ble_eq_true rfl) (by decide) (by decide) dX4_share_40 ?_
      refine v_if_ne (pc := 43) (tgt := 53) K dX4_share_43 (by decide) (fun c11 => ?_) (fun c11 => ?_)
      · have h := ie c11 h
        refine v_aload0 (pc := 53) K dX4_share_53 ?_
        refine v_iload1 (pc := 54) K dX4_share_54 ?_
        refine v_iload2 (pc := 55) K dX4_share_55 ?_
        obtain ⟨v12, h13, h⟩ := bd h
        refine v_cV2U (pc := 56)  K ca_yX4_lists ml_RX4_199 (Nat.le_of_ble_eq_true rfl) rfl rfl (t_X4_lists _ K.nt K.ad (sI σ 0 0 (0 : Int32)) a0 a1 v12 h13) (Nat.le_of_ble_eq_true rfl) (by decide) (by decide) dX4_share_56 ?_
        refine v_ic0 (pc := 59) K dX4_share_59 ?_
        refine v_istore5 (pc := 60) K dX4_share_60 rfl (Nat.le_of_ble_eq_true rfl) ?_
        obtain ⟨w20, h17, hi18, hq19⟩ := eb h
        have hJ16 : ∀ r15 : Unit, w20 = .inl r15 → V (mkX M YM E base 6 (.ok (some (.long r.1))) r.2) v12 135 [none, none, none, none, none, none] [] := by
          intro r15 ha
          have h := hi18 _ ha
          refine v_ldc2 (pc := 135) K dX4_share_135 cl_RX4_127 ?_
          cases h
          exact v_lret (pc := 138) K dX4_share_138 rfl rfl
        clear h
        refine v_fg [true, false, false, true, true, true] ?_
        have hL34 := lpv h17 (fun s14 : Int32 => V (mkX M YM E base 6 (.ok (some (.long r.1))) r.2) v12 62 [some (.ref (E.2.2 0)), none, none, some (.int a2), some (.int a3), some (.int s14)] [])
        refine hL34 (fun s14 o h hk => ?_)
        refine v_iload5 (pc := 62) K dX4_share_62 ?_
        refine v_aload0 (pc := 64) K dX4_share_64 ?_
        refine v_getI (pc := 65) K fl_RX4_196 dX4_share_65 (Nat.le_of_ble_eq_true rfl) rfl rfl ?_
        refine v_icmp_ge (pc := 68) (tgt := 135) K dX4_share_68 (by decide) (fun c21 => ?_) (fun c21 => ?_)
        · have h := it c21 h
          have e := lx h hk
          exact v_fg [false, true, true, false, false, false] (hJ16 _ e.symm)
        · have h := ie c21 h
          refine v_iload5 (pc := 71) K dX4_share_71 ?_
          refine v_ic1 (pc := 73) K dX4_share_73 ?_
          refine v_iadd (pc := 74) K dX4_share_74 ?_
          refine v_aload0 (pc := 75) K dX4_share_75 ?_
          refine v_getI (pc := 76) K fl_RX4_196 dX4_share_76 (Nat.le_of_ble_eq_true rfl) rfl rfl ?_
          refine v_icmp_ge (pc := 79) (tgt := 105) K dX4_share_79 (by decide) (fun c22 => ?_) (fun c22 => ?_)
          · have h := it c22 h
            refine v_iload5 (pc := 105) K dX4_share_105 ?_
            refine v_ic1 (pc := 107) K dX4_share_107 ?_
            refine v_iadd (pc := 108) K dX4_share_108 ?_
            refine v_iload4 (pc := 109) K dX4_share_109 ?_
            refine v_imul (pc := 111) K dX4_share_111 ?_
            refine v_iload3 (pc := 112) K dX4_share_112 ?_
            refine v_aload0 (pc := 113) K dX4_share_113 ?_
            refine v_getI (pc := 114) K fl_RX4_196 dX4_share_114 (Nat.le_of_ble_eq_true rfl) rfl rfl ?_
            refine v_imul (pc := 117) K dX4_share_117 ?_
            refine v_icmp_lt (pc := 118) (tgt := 129) K dX4_share_118 (by decide) (fun c23 => ?_) (fun c23 => ?_)
            · have h := it c23 h
              refine v_iinc5 (pc := 129) (w := 1) K dX4_share_129 rfl (Nat.le_of_ble_eq_true rfl) (by decide) ?_
              refine v_goto (pc := 132) (tgt := 62) K dX4_share_132 (by decide) ?_
              have e := lfc h hk
              exact e
            · have h := ie c23 h
              refine v_aload0 (pc := 121) K dX4_share_121 ?_
              refine v_getR (pc := 122) K fl_RX4_27 dX4_share_122 (Nat.le_of_ble_eq_true rfl) rfl rfl ?_
              refine v_iload5 (pc := 125) K dX4_share_125 ?_
              obtain ⟨j24, h25, h⟩ := bd h
              refine v_laload (pc := 127) K dX4_share_127 (Nat.le_of_ble_eq_true rfl) rfl h25 ?_
              have h := congrArg some (hq19 _ (lx h hk).symm)
              cases h
              exact v_lret (pc := 128) K dX4_share_128 rfl rfl
          · have h := ie c22 h
            refine v_aload0 (pc := 82) K dX4_share_82 ?_
            refine v_getR (pc := 83) K fl_RX4_27 dX4_share_83 (Nat.le_of_ble_eq_true rfl) rfl rfl ?_
            refine v_iload5 (pc := 86) K dX4_share_86 ?_
            refine v_ic1 (pc := 88) K dX4_share_88 ?_
            refine v_iadd (pc := 89) K dX4_share_89 ?_
            obtain ⟨j26, h27, h⟩ := bd h
            refine v_laload (pc := 90) K dX4_share_90 (Nat.le_of_ble_eq_true rfl) rfl h27 ?_
            refine v_aload0 (pc := 91) K dX4_share_91 ?_
            refine v_getR (pc := 92) K fl_RX4_27 dX4_share_92 (Nat.le_of_ble_eq_true rfl) rfl rfl ?_
            refine v_iload5 (pc := 95) K dX4_share_95 ?_
            obtain ⟨j28, h29, h⟩ := bd h
            refine v_laload (pc := 97) K dX4_share_97 (Nat.le_of_ble_eq_true rfl) rfl h29 ?_
            refine v_lc_ne (pc := 98) (tgt := 105) K dX4_share_98 dX4_share_99 (by decide) (fun c30 => ?_) (fun c30 => ?_)
            · have h := ie c30 h
              refine v_iload5 (pc := 105) K dX4_share_105 ?_
              refine v_ic1 (pc := 107) K dX4_share_107 ?_
              refine v_iadd (pc := 108) K dX4_share_108 ?_
              refine v_iload4 (pc := 109) K dX4_share_109 ?_
              refine v_imul (pc := 111) K dX4_share_111 ?_
              refine v_iload3 (pc := 112) K dX4_share_112 ?_
              refine v_aload0 (pc := 113) K dX4_share_113 ?_
              refine v_getI (pc := 114) K fl_RX4_196 dX4_share_114 (Nat.le_of_ble_eq_true rfl) rfl rfl ?_
              refine v_imul (pc := 117) K dX4_share_117 ?_
              refine v_icmp_lt (pc := 118) (tgt := 129) K dX4_share_118 (by decide) (fun c31 => ?_) (fun c31 => ?_)
              · have h := it c31 h
                refine v_iinc5 (pc := 129) (w := 1) K dX4_share_129 rfl (Nat.le_of_ble_eq_true rfl) (by decide) ?_
                refine v_goto (pc := 132) (tgt := 62) K dX4_share_132 (by decide) ?_
                have e := lfc h hk
                exact e
              · have h := ie c31 h
                refine v_aload0 (pc := 121) K dX4_share_121 ?_
                refine v_getR (pc := 122) K fl_RX4_27 dX4_share_122 (Nat.le_of_ble_eq_true rfl) rfl rfl ?_
                refine v_iload5 (pc := 125) K dX4_share_125 ?_
                obtain ⟨j32, h33, h⟩ := bd h
                refine v_laload (pc := 127) K dX4_share_127 (Nat.le_of_ble_eq_true rfl) rfl h33 ?_
                have h := congrArg some (hq19 _ (lx h hk).symm)
                cases h
                exact v_lret (pc := 128) K dX4_share_128 rfl rfl
            · have h := it c30 h
              refine v_goto (pc := 102) (tgt := 129) K dX4_share_102 (by decide) ?_
              refine v_iinc5 (pc := 129) (w := 1) K dX4_share_129 rfl (Nat.le_of_ble_eq_true rfl) (by decide) ?_
              refine v_goto (pc := 132) (tgt := 62) K dX4_share_132 (by decide) ?_
              have e := lfc h hk
              exact e
      · have h := it c11 h
        refine v_aload0 (pc := 46) K dX4_share_46 ?_
        refine v_ic2 (pc := 47) K dX4_share_47 ?_
        obtain ⟨v35, h36, h⟩ := bd h
        refine v_cV1I (pc := 48)  K ca_yX4_fails ml_RX4_105 (Nat.le_of_ble_eq_true rfl) rfl rfl (t_X4_fails _ K.nt K.ad (sI σ 0 0 (0 : Int32)) (2 : Int32) v35 h36) (Nat.le_of_ble_eq_true rfl) (by decide) (by decide) dX4_share_48 ?_
        refine v_i2l (pc := 51) K dX4_share_51 ?_
        cases h
        exact v_lret (pc := 52) K dX4_share_52 rfl rfl
  · have h := it c3 h
    refine v_aload0 (pc := 14) K dX4_share_14 ?_
    refine v_ic1 (pc := 15) K dX4_share_15 ?_
    obtain ⟨v37, h38, h⟩ := bd h
    refine v_cV1I (pc := 16)  K ca_yX4_fails ml_RX4_105 (Nat.le_of_ble_eq_true rfl) rfl rfl (t_X4_fails _ K.nt K.ad (sI σ 0 0 (0 : Int32)) (1 : Int32) v37 h38) (Nat.le_of_ble_eq_true rfl) (by decide) (by decide) dX4_share_16 ?_
    refine v_i2l (pc := 19) K dX4_share_19 ?_
    cases h
    exact v_lret (pc := 20) K dX4_share_20 rfl rfl
set_option maxRecDepth 100000 in
def m_X4_upset (σ : St) (a0 : Int32) (a1 : Int32) : Option (Int32 × St) :=
  ((m_X4_areIn (sI σ 0 0 (0 : Int32)) a0 a1).bind fun v1 => (if v1 = 0 then ((m_X4_fails (sI σ 0 0 (0 : Int32)) (1 : Int32)).bind fun v45 => some (v45.1, v45.2)) else ((lp 5000 (fun (s4 : Int32 × Int32) => (if (sI σ 0 0 (0 : Int32)).1 0 5 ≤ s4.2 then some (.inr s4.1) else ((m_X4_hasUnder (sI σ 0 0 (0 : Int32)) a0 s4.2 a1).bind fun v12 => ((if v12 = 0 then some s4.1 else ((lp 5000 (fun (s18 : Int32 × Int32) => (if (sI σ 0 0 (0 : Int32)).1 0 5 ≤ s18.2 then some (.inr s18.1) else ((m_X4_hasUnder (sI σ 0 0 (0 : Int32)) a0 s18.2 a1).bind fun v26 => ((if v26 = 0 then some (0 : Int32) else ((m_X4_at (sI σ 0 0 (0 : Int32)) a0 s4.2).bind fun v32 => ((ix v32 1152).bind fun j34 => ((m_X4_at (sI σ 0 0 (0 : Int32)) a0 s18.2).bind fun v36 => ((ix v36 1152).bind fun j38 => (if (sI σ 0 0 (0 : Int32)).2 1 j34 ≤ (sI σ 0 0 (0 : Int32)).2 1 j38 then some (0 : Int32) else some (1 : Int32))))))).bind fun (t28 : Int32) => ((m_X4_flag (sI σ 0 0 (0 : Int32)) t28).bind fun v41 => some (.inl ((s18.1 + v41), (s18.2 + 1)))))))) (s4.1, (s4.2 + (1 : Int32)))).bind fun (r19 : Int32) => some r19)).bind fun (t14 : Int32) => some (.inl (t14, (s4.2 + 1))))))) ((0 : Int32), (0 : Int32))).bind fun (r5 : Int32) => some (r5, (sI σ 0 0 (0 : Int32))))))
set_option maxHeartbeats 4000000 in
set_option maxRecDepth 100000 in
theorem t_X4_upset (l : Launch) (hnt : l.stackTraces = false) {E : Ev} {base : Nat} (hE : Adr YM E base) (σ : St) (a0 : Int32) (a1 : Int32) (r : Int32 × St) (h : m_X4_upset σ a0 a1 = some r) : Ctr l yX4_upset cX4_upset 6 (some .int) 3 68 YM E base [.ref (E.2.2 0), .int a0, .int a1] σ (.ok (some (.int r.1))) r.2 := by
  unfold m_X4_upset at h
  refine ofV 3 (by decide +kernel) rfl hE hnt (Nat.le_of_ble_eq_true rfl) rfl (fun M hN K => ?_)
  refine v_aload0 (pc := 0) K dX4_upset_0 ?_
  refine v_ic0 (pc := 1) K dX4_upset_1 ?_
  refine v_put (pc := 2) K fw_RX4_69 dX4_upset_2 rfl rfl (Nat.le_of_ble_eq_true rfl) rfl rfl ?_
  refine v_aload0 (pc := 5) K dX4_upset_5 ?_
  refine v_iload1 (pc := 6) K dX4_upset_6 ?_
  refine v_iload2 (pc := 7) K dX4_upset_7 ?_
  obtain ⟨v1, h2, h⟩ := bd h
  refine v_cV2I (pc := 8)  K ca_yX4_areIn ml_RX4_164 (Nat.le_of_ble_eq_true rfl) rfl rfl (t_X4_areIn _ K.nt K.ad (sI σ 0 0 (0 : Int32)) a0 a1 v1 h2) (Nat.le_of_ble_eq_true rfl) (by decide) (by decide) dX4_upset_8 ?_
  refine v_if_ne (pc := 11) (tgt := 20) K dX4_upset_11 (by decide) (fun c3 => ?_) (fun c3 => ?_)
  · have h := ie c3 h
    refine v_ic0 (pc := 20) K dX4_upset_20 ?_
    refine v_istore3 (pc := 21) K dX4_upset_21 rfl (Nat.le_of_ble_eq_true rfl) ?_
    refine v_ic0 (pc := 22) K dX4_upset_22 ?_
    refine v_istore4 (pc := 23) K dX4_upset_23 rfl (Nat.le_of_ble_eq_true rfl) ?_
    obtain ⟨r5, h7, h⟩ := bd h
    have hJ6 : V (mkX M YM E base 6 (.ok (some (.int r.1))) r.2) (sI σ 0 0 (0 : Int32)) 123 [none, none, none, some (.int r5), none, none] [] := by
      refine v_iload3 (pc := 123) K dX4_upset_123 ?_
      cases h
      exact v_iret (pc := 124) K dX4_upset_124 rfl rfl
    clear h
    have hL44 := lpv h7 (fun s4 : Int32 × Int32 => V (mkX M YM E base 6 (.ok (some (.int r.1))) r.2) (sI σ 0 0 (0 : Int32)) 25 [some (.ref (E.2.2 0)), some (.int a0), some (.int a1), some (.int s4.1), some (.int s4.2), none] [])
    refine hL44 (fun s4 o h hk => ?_)
    refine v_iload4 (pc := 25) K dX4_upset_25 ?_
    refine v_aload0 (pc := 27) K dX4_upset_27 ?_
    refine v_getI (pc := 28) K fl_RX4_80 dX4_upset_28 (Nat.le_of_ble_eq_true rfl) rfl rfl ?_
    refine v_icmp_ge (pc := 31) (tgt := 123) K dX4_upset_31 (by decide) (fun c11 => ?_) (fun c11 => ?_)
    · have h := it c11 h
      have e := lx h hk
      cases e
      exact v_fg [false, false, false, true, false, true] hJ6
    · have h := ie c11 h
      refine v_aload0 (pc := 34) K dX4_upset_34 ?_
      refine v_iload1 (pc := 35) K dX4_upset_35 ?_
      refine v_iload4 (pc := 36) K dX4_upset_36 ?_
      refine v_iload2 (pc := 38) K dX4_upset_38 ?_
      obtain ⟨v12, h13, h⟩ := bd h
      refine v_cV3I (pc := 39)  K ca_yX4_hasUnder ml_RX4_170 (Nat.le_of_ble_eq_true rfl) rfl rfl (t_X4_hasUnder _ K.nt K.ad (sI σ 0 0 (0 : Int32)) a0 s4.2 a1 v12 h13) (Nat.le_of_ble_eq_true rfl) (by decide) (by decide) dX4_upset_39 ?_
      obtain ⟨t14, h16, h⟩ := bd h
      have hJ15 : V (mkX M YM E base 6 (.ok (some (.int r.1))) r.2) (sI σ 0 0 (0 : Int32)) 117 [some (.ref (E.2.2 0)), some (.int a0), some (.int a1), some (.int t14), some (.int s4.2), none] [] := by
        refine v_iinc4 (pc := 117) (w := 1) K dX4_upset_117 rfl (Nat.le_of_ble_eq_true rfl) (by decide) ?_
        refine v_goto (pc := 120) (tgt := 25) K dX4_upset_120 (by decide) ?_
        have e := lfc h hk
        exact e
      clear h
      have h := h16
      refine v_if_ne (pc := 42) (tgt := 48) K dX4_upset_42 (by decide) (fun c17 => ?_) (fun c17 => ?_)
      · have h := ie c17 h
        refine v_iload4 (pc := 48) K dX4_upset_48 ?_
        refine v_ic1 (pc := 50) K dX4_upset_50 ?_
        refine v_iadd (pc := 51) K dX4_upset_51 ?_
        refine v_istore5 (pc := 52) K dX4_upset_52 rfl (Nat.le_of_ble_eq_true rfl) ?_
        obtain ⟨r19, h21, h⟩ := bd h
        have hJ20 : V (mkX M YM E base 6 (.ok (some (.int r.1))) r.2) (sI σ 0 0 (0 : Int32)) 117 [some (.ref (E.2.2 0)), some (.int a0), some (.int a1), some (.int r19), some (.int s4.2), none] [] := by
          cases h
          exact hJ15
        clear h
        have hL43 := lpv h21 (fun s18 : Int32 × Int32 => V (mkX M YM E base 6 (.ok (some (.int r.1))) r.2) (sI σ 0 0 (0 : Int32)) 54 [some (.ref (E.2.2 0)), some (.int a0), some (.int a1), some (.int s18.1), some (.int s4.2), some (.int s18.2)] [])
        refine hL43 (fun s18 o h hk => ?_)
        refine v_iload5 (pc := 54) K dX4_upset_54 ?_
        refine v_aload0 (pc := 56) K dX4_upset_56 ?_
        refine v_getI (pc := 57) K fl_RX4_80 dX4_upset_57 (Nat.le_of_ble_eq_true rfl) rfl rfl ?_
        refine v_icmp_ge (pc := 60) (tgt := 117) K dX4_upset_60 (by decide) (fun c25 => ?_) (fun c25 => ?_)
        · have h := it c25 h
          have e := lx h hk
          cases e
          exact v_fg [true, true, true, true, true, false] hJ20
        · have h := ie c25 h
          refine v_iload3 (pc := 63) K dX4_upset_63 ?_
          refine v_aload0 (pc := 64) K dX4_upset_64 ?_
          refine v_iload1 (pc := 65) K dX4_upset_65 ?_
          refine v_iload5 (pc := 66) K dX4_upset_66 ?_
          refine v_iload2 (pc := 68) K dX4_upset_68 ?_
          obtain ⟨v26, h27, h⟩ := bd h
          refine v_cV3I (pc := 69)  K ca_yX4_hasUnder ml_RX4_170 (Nat.le_of_ble_eq_true rfl) rfl rfl (t_X4_hasUnder _ K.nt K.ad (sI σ 0 0 (0 : Int32)) a0 s18.2 a1 v26 h27) (Nat.le_of_ble_eq_true rfl) (by decide) (by decide) dX4_upset_69 ?_
          obtain ⟨t28, h30, h⟩ := bd h
          have hJ29 : V (mkX M YM E base 6 (.ok (some (.int r.1))) r.2) (sI σ 0 0 (0 : Int32)) 106 [some (.ref (E.2.2 0)), some (.int a0), some (.int a1), none, some (.int s4.2), some (.int s18.2)] [.int t28, .int s18.1] := by
            obtain ⟨v41, h42, h⟩ := bd h
            refine v_cS1I (pc := 106)  K ca_yX4_flag ml_RX4_123 (t_X4_flag _ K.nt K.ad (sI σ 0 0 (0 : Int32)) t28 v41 h42) (Nat.le_of_ble_eq_true rfl) (by decide) (by decide) dX4_upset_106 ?_
            refine v_iadd (pc := 109) K dX4_upset_109 ?_
            refine v_istore3 (pc := 110) K dX4_upset_110 rfl (Nat.le_of_ble_eq_true rfl) ?_
            refine v_iinc5 (pc := 111) (w := 1) K dX4_upset_111 rfl (Nat.le_of_ble_eq_true rfl) (by decide) ?_
            refine v_goto (pc := 114) (tgt := 54) K dX4_upset_114 (by decide) ?_
            have e := lfc h hk
            exact e
          clear h
          have h := h30
          refine v_if_eq (pc := 72) (tgt := 105) K dX4_upset_72 (by decide) (fun c31 => ?_) (fun c31 => ?_)
          · have h := it c31 h
            refine v_ic0 (pc := 105) K dX4_upset_105 ?_
            cases h
            exact (v_fg [true, true, true, false, true, true] hJ29)
          · have h := ie c31 h
            refine v_aload0 (pc := 75) K dX4_upset_75 ?_
            refine v_getR (pc := 76) K fl_RX4_7 dX4_upset_76 (Nat.le_of_ble_eq_true rfl) rfl rfl ?_
            refine v_iload1 (pc := 79) K dX4_upset_79 ?_
            refine v_iload4 (pc := 80) K dX4_upset_80 ?_
            obtain ⟨v32, h33, h⟩ := bd h
            refine v_cS2I (pc := 82)  K ca_yX4_at ml_RX4_94 (t_X4_at _ K.nt K.ad (sI σ 0 0 (0 : Int32)) a0 s4.2 v32 h33) (Nat.le_of_ble_eq_true rfl) (by decide) (by decide) dX4_upset_82 ?_
            obtain ⟨j34, h35, h⟩ := bd h
            refine v_laload (pc := 85) K dX4_upset_85 (Nat.le_of_ble_eq_true rfl) rfl h35 ?_
            refine v_aload0 (pc := 86) K dX4_upset_86 ?_
            refine v_getR (pc := 87) K fl_RX4_7 dX4_upset_87 (Nat.le_of_ble_eq_true rfl) rfl rfl ?_
            refine v_iload1 (pc := 90) K dX4_upset_90 ?_
            refine v_iload5 (pc := 91) K dX4_upset_91 ?_
            obtain ⟨v36, h37, h⟩ := bd h
            refine v_cS2I (pc := 93)  K ca_yX4_at ml_RX4_94 (t_X4_at _ K.nt K.ad (sI σ 0 0 (0 : Int32)) a0 s18.2 v36 h37) (Nat.le_of_ble_eq_true rfl) (by decide) (by decide) dX4_upset_93 ?_
            obtain ⟨j38, h39, h⟩ := bd h
            refine v_laload (pc := 96) K dX4_upset_96 (Nat.le_of_ble_eq_true rfl) rfl h39 ?_
            refine v_lc_le (pc := 97) (tgt := 105) K dX4_upset_97 dX4_upset_98 (by decide) (fun c40 => ?_) (fun c40 => ?_)
            · have h := it c40 h
              refine v_ic0 (pc := 105) K dX4_upset_105 ?_
              cases h
              exact (v_fg [true, true, true, false, true, true] hJ29)
            · have h := ie c40 h
              refine v_ic1 (pc := 101) K dX4_upset_101 ?_
              refine v_goto (pc := 102) (tgt := 106) K dX4_upset_102 (by decide) ?_
              cases h
              exact (v_fg [true, true, true, false, true, true] hJ29)
      · have h := it c17 h
        refine v_goto (pc := 45) (tgt := 117) K dX4_upset_45 (by decide) ?_
        cases h
        exact hJ15
  · have h := it c3 h
    refine v_aload0 (pc := 14) K dX4_upset_14 ?_
    refine v_ic1 (pc := 15) K dX4_upset_15 ?_
    obtain ⟨v45, h46, h⟩ := bd h
    refine v_cV1I (pc := 16)  K ca_yX4_fails ml_RX4_105 (Nat.le_of_ble_eq_true rfl) rfl rfl (t_X4_fails _ K.nt K.ad (sI σ 0 0 (0 : Int32)) (1 : Int32) v45 h46) (Nat.le_of_ble_eq_true rfl) (by decide) (by decide) dX4_upset_16 ?_
    cases h
    exact v_iret (pc := 19) K dX4_upset_19 rfl rfl
set_option maxRecDepth 100000 in
def m_X4_rank (σ : St) (a0 : Int32) (a1 : Int32) (a2 : Int64) (a3 : Int32) : Option (Int32 × St) :=
  ((m_X4_areIn (sI σ 0 0 (0 : Int32)) a0 a1).bind fun v1 => (if v1 = 0 then ((m_X4_fails (sI σ 0 0 (0 : Int32)) (1 : Int32)).bind fun v31 => some (v31.1, v31.2)) else ((m_X4_isIn (sI σ 0 0 (0 : Int32)) ((a3).toInt64) (0 : Int64) (2 : Int64)).bind fun v4 => (if v4 = 0 then ((m_X4_fails (sI σ 0 0 (0 : Int32)) (2 : Int32)).bind fun v29 => some (v29.1, v29.2)) else ((m_X4_lists (sI σ 0 0 (0 : Int32)) a0 a1).bind fun v7 => ((lp 5000 (fun (s9 : Int32 × Int32) => (if v7.1 0 10 ≤ s9.2 then some (.inr s9.1) else ((ix s9.2 192).bind fun j17 => ((if a3 = 0 then some (0 : Int32) else (if a3 = (1 : Int32) then some (2 : Int32) else some (5 : Int32))).bind fun (t19 : Int32) => ((m_X4_isSo v7 (v7.2 6 j17) t19 a2).bind fun v24 => ((m_X4_flag v7 v24).bind fun v26 => some (.inl ((s9.1 + v26), (s9.2 + 1))))))))) ((0 : Int32), (0 : Int32))).bind fun (r10 : Int32) => some (r10, v7)))))))
set_option maxHeartbeats 4000000 in
set_option maxRecDepth 100000 in
theorem t_X4_rank (l : Launch) (hnt : l.stackTraces = false) {E : Ev} {base : Nat} (hE : Adr YM E base) (σ : St) (a0 : Int32) (a1 : Int32) (a2 : Int64) (a3 : Int32) (r : Int32 × St) (h : m_X4_rank σ a0 a1 a2 a3 = some r) : Ctr l yX4_rank cX4_rank 8 (some .int) 3 70 YM E base [.ref (E.2.2 0), .int a0, .int a1, .long a2, .int a3] σ (.ok (some (.int r.1))) r.2 := by
  unfold m_X4_rank at h
  refine ofV 2 (by decide +kernel) rfl hE hnt (Nat.le_of_ble_eq_true rfl) rfl (fun M hN K => ?_)
  refine v_aload0 (pc := 0) K dX4_rank_0 ?_
  refine v_ic0 (pc := 1) K dX4_rank_1 ?_
  refine v_put (pc := 2) K fw_RX4_69 dX4_rank_2 rfl rfl (Nat.le_of_ble_eq_true rfl) rfl rfl ?_
  refine v_aload0 (pc := 5) K dX4_rank_5 ?_
  refine v_iload1 (pc := 6) K dX4_rank_6 ?_
  refine v_iload2 (pc := 7) K dX4_rank_7 ?_
  obtain ⟨v1, h2, h⟩ := bd h
  refine v_cV2I (pc := 8)  K ca_yX4_areIn ml_RX4_164 (Nat.le_of_ble_eq_true rfl) rfl rfl (t_X4_areIn _ K.nt K.ad (sI σ 0 0 (0 : Int32)) a0 a1 v1 h2) (Nat.le_of_ble_eq_true rfl) (by decide) (by decide) dX4_rank_8 ?_
  refine v_if_ne (pc := 11) (tgt := 20) K dX4_rank_11 (by decide) (fun c3 => ?_) (fun c3 => ?_)
  · have h := ie c3 h
    refine v_iload5 (pc := 20) K dX4_rank_20 ?_
    refine v_i2l (pc := 22) K dX4_rank_22 ?_
    refine v_lc0 (pc := 23) K dX4_rank_23 ?_
    refine v_ldc2 (pc := 24) K dX4_rank_24 cl_RX4_85 ?_
    obtain ⟨v4, h5, h⟩ := bd h
    refine v_cS3I (pc := 27)  K ca_yX4_isIn ml_RX4_76 (t_X4_isIn _ K.nt K.ad (sI σ 0 0 (0 : Int32)) ((a3).toInt64) (0 : Int64) (2 : Int64) v4 h5) (Nat.le_of_ble_eq_true rfl) (by decide) (by decide) dX4_rank_27 ?_
    refine v_if_ne (pc := 30) (tgt := 39) K dX4_rank_30 (by decide) (fun c6 => ?_) (fun c6 => ?_)
    · have h := ie c6 h
      refine v_aload0 (pc := 39) K dX4_rank_39 ?_
      refine v_iload1 (pc := 40) K dX4_rank_40 ?_
      refine v_iload2 (pc := 41) K dX4_rank_41 ?_
      obtain ⟨v7, h8, h⟩ := bd h
      refine v_cV2U (pc := 42)  K ca_yX4_lists ml_RX4_199 (Nat.le_of_ble_eq_true rfl) rfl rfl (t_X4_lists _ K.nt K.ad (sI σ 0 0 (0 : Int32)) a0 a1 v7 h8) (Nat.le_of_ble_eq_true rfl) (by decide) (by decide) dX4_rank_42 ?_
      refine v_ic0 (pc := 45) K dX4_rank_45 ?_
      refine v_istore6 (pc := 46) K dX4_rank_46 rfl (Nat.le_of_ble_eq_true rfl) ?_
      refine v_ic0 (pc := 48) K dX4_rank_48 ?_
      refine v_istore7 (pc := 49) K dX4_rank_49 rfl (Nat.le_of_ble_eq_true rfl) ?_
      obtain ⟨r10, h12, h⟩ := bd h
      have hJ11 : V (mkX M YM E base 8 (.ok (some (.int r.1))) r.2) v7 105 [none, none, none, none, none, none, some (.int r10), none] [] := by
        refine v_iload6 (pc := 105) K dX4_rank_105 ?_
        cases h
        exact v_iret (pc := 107) K dX4_rank_107 rfl rfl
      clear h
      refine v_fg [true, false, false, true, true, true, true, true] ?_
      have hL28 := lpv h12 (fun s9 : Int32 × Int32 => V (mkX M YM E base 8 (.ok (some (.int r.1))) r.2) v7 51 [some (.ref (E.2.2 0)), none, none, some (.long a2), none, some (.int a3), some (.int s9.1), some (.int s9.2)] [])
      refine hL28 (fun s9 o h hk => ?_)
      refine v_iload7 (pc := 51) K dX4_rank_51 ?_
      refine v_aload0 (pc := 53) K dX4_rank_53 ?_
      refine v_getI (pc := 54) K fl_RX4_196 dX4_rank_54 (Nat.le_of_ble_eq_true rfl) rfl rfl ?_
      refine v_icmp_ge (pc := 57) (tgt := 105) K dX4_rank_57 (by decide) (fun c16 => ?_) (fun c16 => ?_)
      · have h := it c16 h
        have e := lx h hk
        cases e
        exact v_fg [false, true, true, false, true, false, true, false] hJ11
      · have h := ie c16 h
        refine v_iload6 (pc := 60) K dX4_rank_60 ?_
        refine v_aload0 (pc := 62) K dX4_rank_62 ?_
        refine v_getR (pc := 63) K fl_RX4_27 dX4_rank_63 (Nat.le_of_ble_eq_true rfl) rfl rfl ?_
        refine v_iload7 (pc := 66) K dX4_rank_66 ?_
        obtain ⟨j17, h18, h⟩ := bd h
        refine v_laload (pc := 68) K dX4_rank_68 (Nat.le_of_ble_eq_true rfl) rfl h18 ?_
        refine v_iload5 (pc := 69) K dX4_rank_69 ?_
        obtain ⟨t19, h21, h⟩ := bd h
        have hJ20 : V (mkX M YM E base 8 (.ok (some (.int r.1))) r.2) v7 89 [some (.ref (E.2.2 0)), none, none, some (.long a2), none, some (.int a3), none, some (.int s9.2)] [.int t19, .long (v7.2 6 j17), .int s9.1] := by
          refine v_lload3 (pc := 89) K dX4_rank_89 ?_
          obtain ⟨v24, h25, h⟩ := bd h
          refine v_cS3I (pc := 90)  K ca_yX4_isSo ml_RX4_173 (t_X4_isSo _ K.nt K.ad v7 (v7.2 6 j17) t19 a2 v24 h25) (Nat.le_of_ble_eq_true rfl) (by decide) (by decide) dX4_rank_90 ?_
          obtain ⟨v26, h27, h⟩ := bd h
          refine v_cS1I (pc := 93)  K ca_yX4_flag ml_RX4_123 (t_X4_flag _ K.nt K.ad v7 v24 v26 h27) (Nat.le_of_ble_eq_true rfl) (by decide) (by decide) dX4_rank_93 ?_
          refine v_iadd (pc := 96) K dX4_rank_96 ?_
          refine v_istore6 (pc := 97) K dX4_rank_97 rfl (Nat.le_of_ble_eq_true rfl) ?_
          refine v_iinc7 (pc := 99) (w := 1) K dX4_rank_99 rfl (Nat.le_of_ble_eq_true rfl) (by decide) ?_
          refine v_goto (pc := 102) (tgt := 51) K dX4_rank_102 (by decide) ?_
          have e := lfc h hk
          exact e
        clear h
        have h := h21
        refine v_if_ne (pc := 71) (tgt := 78) K dX4_rank_71 (by decide) (fun c22 => ?_) (fun c22 => ?_)
        · have h := ie c22 h
          refine v_iload5 (pc := 78) K dX4_rank_78 ?_
          refine v_ic1 (pc := 80) K dX4_rank_80 ?_
          refine v_icmp_ne (pc := 81) (tgt := 88) K dX4_rank_81 (by decide) (fun c23 => ?_) (fun c23 => ?_)
          · have h := ie c23 h
            refine v_ic5 (pc := 88) K dX4_rank_88 ?_
            cases h
            exact (v_fg [true, true, true, true, true, true, false, true] hJ20)
          · have h := it c23 h
            refine v_ic2 (pc := 84) K dX4_rank_84 ?_
            refine v_goto (pc := 85) (tgt := 89) K dX4_rank_85 (by decide) ?_
            cases h
            exact (v_fg [true, true, true, true, true, true, false, true] hJ20)
        · have h := it c22 h
          refine v_ic0 (pc := 74) K dX4_rank_74 ?_
          refine v_goto (pc := 75) (tgt := 89) K dX4_rank_75 (by decide) ?_
          cases h
          exact (v_fg [true, true, true, true, true, true, false, true] hJ20)
    · have h := it c6 h
      refine v_aload0 (pc := 33) K dX4_rank_33 ?_
      refine v_ic2 (pc := 34) K dX4_rank_34 ?_
      obtain ⟨v29, h30, h⟩ := bd h
      refine v_cV1I (pc := 35)  K ca_yX4_fails ml_RX4_105 (Nat.le_of_ble_eq_true rfl) rfl rfl (t_X4_fails _ K.nt K.ad (sI σ 0 0 (0 : Int32)) (2 : Int32) v29 h30) (Nat.le_of_ble_eq_true rfl) (by decide) (by decide) dX4_rank_35 ?_
      cases h
      exact v_iret (pc := 38) K dX4_rank_38 rfl rfl
  · have h := it c3 h
    refine v_aload0 (pc := 14) K dX4_rank_14 ?_
    refine v_ic1 (pc := 15) K dX4_rank_15 ?_
    obtain ⟨v31, h32, h⟩ := bd h
    refine v_cV1I (pc := 16)  K ca_yX4_fails ml_RX4_105 (Nat.le_of_ble_eq_true rfl) rfl rfl (t_X4_fails _ K.nt K.ad (sI σ 0 0 (0 : Int32)) (1 : Int32) v31 h32) (Nat.le_of_ble_eq_true rfl) (by decide) (by decide) dX4_rank_16 ?_
    cases h
    exact v_iret (pc := 19) K dX4_rank_19 rfl rfl
set_option maxRecDepth 100000 in
def m_X4_unlike (σ : St) (a0 : Int32) (a1 : Int32) (a2 : Int32) : Option (Int64 × St) :=
  ((m_X4_areIn (sI σ 0 0 (0 : Int32)) a0 a1).bind fun v1 => (if v1 = 0 then ((m_X4_fails (sI σ 0 0 (0 : Int32)) (1 : Int32)).bind fun v46 => some ((v46.1).toInt64, v46.2)) else ((m_X4_isIn (sI σ 0 0 (0 : Int32)) ((a2).toInt64) (0 : Int64) (2 : Int64)).bind fun v4 => (if v4 = 0 then ((m_X4_fails (sI σ 0 0 (0 : Int32)) (2 : Int32)).bind fun v44 => some ((v44.1).toInt64, v44.2)) else ((m_X4_lists (sI σ 0 0 (0 : Int32)) a0 a1).bind fun v7 => ((lp 5000 (fun (s9 : Int32 × Int32 × Int64 × Int32 × Int32) => (if v7.1 0 10 ≤ s9.2.2.2.2 then some (.inr (s9.1, s9.2.1, s9.2.2.1)) else ((if s9.2.2.2.2 = 0 then some (1 : Int32) else ((ix s9.2.2.2.2 192).bind fun j21 => ((ix (s9.2.2.2.2 - (1 : Int32)) 192).bind fun j23 => (if v7.2 6 j21 = v7.2 6 j23 then some (0 : Int32) else some (1 : Int32))))).bind fun (t17 : Int32) => ((m_X4_flag v7 t17).bind fun v26 => ((if t17 = 0 then some (s9.2.2.2.1 + (1 : Int32)) else some (1 : Int32)).bind fun (t28 : Int32) => ((if s9.2.1 < t28 then ((ix s9.2.2.2.2 192).bind fun j36 => some (t28, v7.2 6 j36)) else some (s9.2.1, s9.2.2.1)).bind fun (t32 : Int32 × Int64) => some (.inl ((s9.1 + v26), t32.1, t32.2, t28, (s9.2.2.2.2 + 1))))))))) ((0 : Int32), (0 : Int32), ((-9223372036854775808) : Int64), (0 : Int32), (0 : Int32))).bind fun (r10 : Int32 × Int32 × Int64) => ((if a2 = 0 then some ((r10.1).toInt64) else (if a2 = (1 : Int32) then some r10.2.2 else some ((r10.2.1).toInt64))).bind fun (t38 : Int64) => some (t38, v7))))))))
set_option maxHeartbeats 4000000 in
set_option maxRecDepth 100000 in
theorem t_X4_unlike (l : Launch) (hnt : l.stackTraces = false) {E : Ev} {base : Nat} (hE : Adr YM E base) (σ : St) (a0 : Int32) (a1 : Int32) (a2 : Int32) (r : Int64 × St) (h : m_X4_unlike σ a0 a1 a2 = some r) : Ctr l yX4_unlike cX4_unlike 11 (some .long) 3 70 YM E base [.ref (E.2.2 0), .int a0, .int a1, .int a2] σ (.ok (some (.long r.1))) r.2 := by
  unfold m_X4_unlike at h
  refine ofV 7 (by decide +kernel) rfl hE hnt (Nat.le_of_ble_eq_true rfl) rfl (fun M hN K => ?_)
  refine v_aload0 (pc := 0) K dX4_unlike_0 ?_
  refine v_ic0 (pc := 1) K dX4_unlike_1 ?_
  refine v_put (pc := 2) K fw_RX4_69 dX4_unlike_2 rfl rfl (Nat.le_of_ble_eq_true rfl) rfl rfl ?_
  refine v_aload0 (pc := 5) K dX4_unlike_5 ?_
  refine v_iload1 (pc := 6) K dX4_unlike_6 ?_
  refine v_iload2 (pc := 7) K dX4_unlike_7 ?_
  obtain ⟨v1, h2, h⟩ := bd h
  refine v_cV2I (pc := 8)  K ca_yX4_areIn ml_RX4_164 (Nat.le_of_ble_eq_true rfl) rfl rfl (t_X4_areIn _ K.nt K.ad (sI σ 0 0 (0 : Int32)) a0 a1 v1 h2) (Nat.le_of_ble_eq_true rfl) (by decide) (by decide) dX4_unlike_8 ?_
  refine v_if_ne (pc := 11) (tgt := 21) K dX4_unlike_11 (by decide) (fun c3 => ?_) (fun c3 => ?_)
  · have h := ie c3 h
    refine v_iload3 (pc := 21) K dX4_unlike_21 ?_
    refine v_i2l (pc := 22) K dX4_unlike_22 ?_
    refine v_lc0 (pc := 23) K dX4_unlike_23 ?_
    refine v_ldc2 (pc := 24) K dX4_unlike_24 cl_RX4_85 ?_
    obtain ⟨v4, h5, h⟩ := bd h
    refine v_cS3I (pc := 27)  K ca_yX4_isIn ml_RX4_76 (t_X4_isIn _ K.nt K.ad (sI σ 0 0 (0 : Int32)) ((a2).toInt64) (0 : Int64) (2 : Int64) v4 h5) (Nat.le_of_ble_eq_true rfl) (by decide) (by decide) dX4_unlike_27 ?_
    refine v_if_ne (pc := 30) (tgt := 40) K dX4_unlike_30 (by decide) (fun c6 => ?_) (fun c6 => ?_)
    · have h := ie c6 h
      refine v_aload0 (pc := 40) K dX4_unlike_40 ?_
      refine v_iload1 (pc := 41) K dX4_unlike_41 ?_
      refine v_iload2 (pc := 42) K dX4_unlike_42 ?_
      obtain ⟨v7, h8, h⟩ := bd h
      refine v_cV2U (pc := 43)  K ca_yX4_lists ml_RX4_199 (Nat.le_of_ble_eq_true rfl) rfl rfl (t_X4_lists _ K.nt K.ad (sI σ 0 0 (0 : Int32)) a0 a1 v7 h8) (Nat.le_of_ble_eq_true rfl) (by decide) (by decide) dX4_unlike_43 ?_
      refine v_ic0 (pc := 46) K dX4_unlike_46 ?_
      refine v_istore4 (pc := 47) K dX4_unlike_47 rfl (Nat.le_of_ble_eq_true rfl) ?_
      refine v_ic0 (pc := 49) K dX4_unlike_49 ?_
      refine v_istore5 (pc := 50) K dX4_unlike_50 rfl (Nat.le_of_ble_eq_true rfl) ?_
      refine v_ldc2 (pc := 52) K dX4_unlike_52 cl_RX4_127 ?_
      refine v_lstore6 (pc := 55) K dX4_unlike_55 rfl (Nat.le_of_ble_eq_true rfl) ?_
      refine v_ic0 (pc := 57) K dX4_unlike_57 ?_
      refine v_istore8 (pc := 58) K dX4_unlike_58 rfl (Nat.le_of_ble_eq_true rfl) ?_
      refine v_ic0 (pc := 60) K dX4_unlike_60 ?_
      refine v_istore9 (pc := 61) K dX4_unlike_61 rfl (Nat.le_of_ble_eq_true rfl) ?_
      obtain ⟨r10, h12, h⟩ := bd h
      have hJ11 : V (mkX M YM E base 11 (.ok (some (.long r.1))) r.2) v7 158 [none, none, none, some (.int a2), some (.int r10.1), some (.int r10.2.1), some (.long r10.2.2), none, none, none, none] [] := by
        refine v_iload3 (pc := 158) K dX4_unlike_158 ?_
        obtain ⟨t38, h40, h⟩ := bd h
        have hJ39 : V (mkX M YM E base 11 (.ok (some (.long r.1))) r.2) v7 181 [none, none, none, none, none, none, none, none, none, none, none] [.long t38] := by
          cases h
          exact v_lret (pc := 181) K dX4_unlike_181 rfl rfl
        clear h
        have h := h40
        refine v_if_ne (pc := 159) (tgt := 168) K dX4_unlike_159 (by decide) (fun c41 => ?_) (fun c41 => ?_)
        · have h := ie c41 h
          refine v_iload3 (pc := 168) K dX4_unlike_168 ?_
          refine v_ic1 (pc := 169) K dX4_unlike_169 ?_
          refine v_icmp_ne (pc := 170) (tgt := 178) K dX4_unlike_170 (by decide) (fun c42 => ?_) (fun c42 => ?_)
          · have h := ie c42 h
            refine v_iload5 (pc := 178) K dX4_unlike_178 ?_
            refine v_i2l (pc := 180) K dX4_unlike_180 ?_
            cases h
            exact (v_fg [true, true, true, false, false, false, false, true, true, true, true] hJ39)
          · have h := it c42 h
            refine v_lload6 (pc := 173) K dX4_unlike_173 ?_
            refine v_goto (pc := 175) (tgt := 181) K dX4_unlike_175 (by decide) ?_
            cases h
            exact (v_fg [true, true, true, false, false, false, false, true, true, true, true] hJ39)
        · have h := it c41 h
          refine v_iload4 (pc := 162) K dX4_unlike_162 ?_
          refine v_i2l (pc := 164) K dX4_unlike_164 ?_
          refine v_goto (pc := 165) (tgt := 181) K dX4_unlike_165 (by decide) ?_
          cases h
          exact (v_fg [true, true, true, false, false, false, false, true, true, true, true] hJ39)
      clear h
      refine v_fg [true, false, false, true, true, true, true, true, true, true, true] ?_
      have hL43 := lpv h12 (fun s9 : Int32 × Int32 × Int64 × Int32 × Int32 => V (mkX M YM E base 11 (.ok (some (.long r.1))) r.2) v7 63 [some (.ref (E.2.2 0)), none, none, some (.int a2), some (.int s9.1), some (.int s9.2.1), some (.long s9.2.2.1), none, some (.int s9.2.2.2.1), some (.int s9.2.2.2.2), none] [])
      refine hL43 (fun s9 o h hk => ?_)
      refine v_iload9 (pc := 63) K dX4_unlike_63 ?_
      refine v_aload0 (pc := 65) K dX4_unlike_65 ?_
      refine v_getI (pc := 66) K fl_RX4_196 dX4_unlike_66 (Nat.le_of_ble_eq_true rfl) rfl rfl ?_
      refine v_icmp_ge (pc := 69) (tgt := 158) K dX4_unlike_69 (by decide) (fun c16 => ?_) (fun c16 => ?_)
      · have h := it c16 h
        have e := lx h hk
        cases e
        exact v_fg [false, true, true, true, true, true, true, true, false, false, true] hJ11
      · have h := ie c16 h
        refine v_iload9 (pc := 72) K dX4_unlike_72 ?_
        obtain ⟨t17, h19, h⟩ := bd h
        have hJ18 : V (mkX M YM E base 11 (.ok (some (.long r.1))) r.2) v7 102 [some (.ref (E.2.2 0)), none, none, some (.int a2), some (.int s9.1), some (.int s9.2.1), some (.long s9.2.2.1), none, some (.int s9.2.2.2.1), some (.int s9.2.2.2.2), none] [.int t17] := by
          refine v_istore10 (pc := 102) K dX4_unlike_102 rfl (Nat.le_of_ble_eq_true rfl) ?_
          refine v_iload4 (pc := 104) K dX4_unlike_104 ?_
          refine v_iload10 (pc := 106) K dX4_unlike_106 ?_
          obtain ⟨v26, h27, h⟩ := bd h
          refine v_cS1I (pc := 108)  K ca_yX4_flag ml_RX4_123 (t_X4_flag _ K.nt K.ad v7 t17 v26 h27) (Nat.le_of_ble_eq_true rfl) (by decide) (by decide) dX4_unlike_108 ?_
          refine v_iadd (pc := 111) K dX4_unlike_111 ?_
          refine v_istore4 (pc := 112) K dX4_unlike_112 rfl (Nat.le_of_ble_eq_true rfl) ?_
          refine v_iload10 (pc := 114) K dX4_unlike_114 ?_
          obtain ⟨t28, h30, h⟩ := bd h
          have hJ29 : V (mkX M YM E base 11 (.ok (some (.long r.1))) r.2) v7 127 [some (.ref (E.2.2 0)), none, none, some (.int a2), some (.int (s9.1 + v26)), some (.int s9.2.1), some (.long s9.2.2.1), none, none, some (.int s9.2.2.2.2), none] [.int t28] := by
            refine v_istore8 (pc := 127) K dX4_unlike_127 rfl (Nat.le_of_ble_eq_true rfl) ?_
            refine v_iload8 (pc := 129) K dX4_unlike_129 ?_
            refine v_iload5 (pc := 131) K dX4_unlike_131 ?_
            obtain ⟨t32, h34, h⟩ := bd h
            have hJ33 : V (mkX M YM E base 11 (.ok (some (.long r.1))) r.2) v7 152 [some (.ref (E.2.2 0)), none, none, some (.int a2), some (.int (s9.1 + v26)), some (.int t32.1), some (.long t32.2), none, some (.int t28), some (.int s9.2.2.2.2), none] [] := by
              refine v_iinc9 (pc := 152) (w := 1) K dX4_unlike_152 rfl (Nat.le_of_ble_eq_true rfl) (by decide) ?_
              refine v_goto (pc := 155) (tgt := 63) K dX4_unlike_155 (by decide) ?_
              have e := lfc h hk
              exact e
            clear h
            have h := h34
            refine v_icmp_gt (pc := 133) (tgt := 139) K dX4_unlike_133 (by decide) (fun c35 => ?_) (fun c35 => ?_)
            · have h := it c35 h
              refine v_iload8 (pc := 139) K dX4_unlike_139 ?_
              refine v_istore5 (pc := 141) K dX4_unlike_141 rfl (Nat.le_of_ble_eq_true rfl) ?_
              refine v_aload0 (pc := 143) K dX4_unlike_143 ?_
              refine v_getR (pc := 144) K fl_RX4_27 dX4_unlike_144 (Nat.le_of_ble_eq_true rfl) rfl rfl ?_
              refine v_iload9 (pc := 147) K dX4_unlike_147 ?_
              obtain ⟨j36, h37, h⟩ := bd h
              refine v_laload (pc := 149) K dX4_unlike_149 (Nat.le_of_ble_eq_true rfl) rfl h37 ?_
              refine v_lstore6 (pc := 150) K dX4_unlike_150 rfl (Nat.le_of_ble_eq_true rfl) ?_
              cases h
              exact hJ33
            · have h := ie c35 h
              refine v_goto (pc := 136) (tgt := 152) K dX4_unlike_136 (by decide) ?_
              cases h
              exact hJ33
          clear h
          have h := h30
          refine v_if_eq (pc := 116) (tgt := 123) K dX4_unlike_116 (by decide) (fun c31 => ?_) (fun c31 => ?_)
          · have h := it c31 h
            refine v_iload8 (pc := 123) K dX4_unlike_123 ?_
            refine v_ic1 (pc := 125) K dX4_unlike_125 ?_
            refine v_iadd (pc := 126) K dX4_unlike_126 ?_
            cases h
            exact (v_fg [true, true, true, true, true, true, true, true, false, true, false] hJ29)
          · have h := ie c31 h
            refine v_ic1 (pc := 119) K dX4_unlike_119 ?_
            refine v_goto (pc := 120) (tgt := 127) K dX4_unlike_120 (by decide) ?_
            cases h
            exact (v_fg [true, true, true, true, true, true, true, true, false, true, false] hJ29)
        clear h
        have h := h19
        refine v_if_eq (pc := 74) (tgt := 97) K dX4_unlike_74 (by decide) (fun c20 => ?_) (fun c20 => ?_)
        · have h := it c20 h
          refine v_ic1 (pc := 97) K dX4_unlike_97 ?_
          refine v_goto (pc := 98) (tgt := 102) K dX4_unlike_98 (by decide) ?_
          cases h
          exact hJ18
        · have h := ie c20 h
          refine v_aload0 (pc := 77) K dX4_unlike_77 ?_
          refine v_getR (pc := 78) K fl_RX4_27 dX4_unlike_78 (Nat.le_of_ble_eq_true rfl) rfl rfl ?_
          refine v_iload9 (pc := 81) K dX4_unlike_81 ?_
          obtain ⟨j21, h22, h⟩ := bd h
          refine v_laload (pc := 83) K dX4_unlike_83 (Nat.le_of_ble_eq_true rfl) rfl h22 ?_
          refine v_aload0 (pc := 84) K dX4_unlike_84 ?_
          refine v_getR (pc := 85) K fl_RX4_27 dX4_unlike_85 (Nat.le_of_ble_eq_true rfl) rfl rfl ?_
          refine v_iload9 (pc := 88) K dX4_unlike_88 ?_
          refine v_ic1 (pc := 90) K dX4_unlike_90 ?_
          refine v_isub (pc := 91) K dX4_unlike_91 ?_
          obtain ⟨j23, h24, h⟩ := bd h
          refine v_laload (pc := 92) K dX4_unlike_92 (Nat.le_of_ble_eq_true rfl) rfl h24 ?_
          refine v_lc_eq (pc := 93) (tgt := 101) K dX4_unlike_93 dX4_unlike_94 (by decide) (fun c25 => ?_) (fun c25 => ?_)
          · have h := it c25 h
            refine v_ic0 (pc := 101) K dX4_unlike_101 ?_
            cases h
            exact hJ18
          · have h := ie c25 h
            refine v_ic1 (pc := 97) K dX4_unlike_97 ?_
            refine v_goto (pc := 98) (tgt := 102) K dX4_unlike_98 (by decide) ?_
            cases h
            exact hJ18
    · have h := it c6 h
      refine v_aload0 (pc := 33) K dX4_unlike_33 ?_
      refine v_ic2 (pc := 34) K dX4_unlike_34 ?_
      obtain ⟨v44, h45, h⟩ := bd h
      refine v_cV1I (pc := 35)  K ca_yX4_fails ml_RX4_105 (Nat.le_of_ble_eq_true rfl) rfl rfl (t_X4_fails _ K.nt K.ad (sI σ 0 0 (0 : Int32)) (2 : Int32) v44 h45) (Nat.le_of_ble_eq_true rfl) (by decide) (by decide) dX4_unlike_35 ?_
      refine v_i2l (pc := 38) K dX4_unlike_38 ?_
      cases h
      exact v_lret (pc := 39) K dX4_unlike_39 rfl rfl
  · have h := it c3 h
    refine v_aload0 (pc := 14) K dX4_unlike_14 ?_
    refine v_ic1 (pc := 15) K dX4_unlike_15 ?_
    obtain ⟨v46, h47, h⟩ := bd h
    refine v_cV1I (pc := 16)  K ca_yX4_fails ml_RX4_105 (Nat.le_of_ble_eq_true rfl) rfl rfl (t_X4_fails _ K.nt K.ad (sI σ 0 0 (0 : Int32)) (1 : Int32) v46 h47) (Nat.le_of_ble_eq_true rfl) (by decide) (by decide) dX4_unlike_16 ?_
    refine v_i2l (pc := 19) K dX4_unlike_19 ?_
    cases h
    exact v_lret (pc := 20) K dX4_unlike_20 rfl rfl
set_option maxRecDepth 100000 in
def m_X4_ones (σ : St) (a0 : Int32) (a1 : Int32) (a2 : Int32) : Option (Int32 × St) :=
  ((m_X4_areIn (sI σ 0 0 (0 : Int32)) a0 a2).bind fun v1 => (if v1 = 0 then ((m_X4_fails (sI σ 0 0 (0 : Int32)) (1 : Int32)).bind fun v4 => some (v4.1, v4.2)) else ((ix a0 6).bind fun j6 => ((m_X4_isIn (sI σ 0 0 (0 : Int32)) ((a1).toInt64) (0 : Int64) ((((sI σ 0 0 (0 : Int32)).1 3 j6 - (1 : Int32))).toInt64)).bind fun v8 => (if v8 = 0 then ((m_X4_fails (sI σ 0 0 (0 : Int32)) (1 : Int32)).bind fun v24 => some (v24.1, v24.2)) else ((m_X4_lists (sI σ 0 0 (0 : Int32)) a0 a2).bind fun v11 => ((lp 5000 (fun (s13 : Int32 × Int32) => (if v11.1 0 10 ≤ s13.2 then some (.inr s13.1) else ((ix s13.2 192).bind fun j21 => some (.inl ((s13.1 + (((v11.2 6 j21 >>> ((a1).toInt64 &&& 63)) &&& (1 : Int64))).toInt32), (s13.2 + 1)))))) ((0 : Int32), (0 : Int32))).bind fun (r14 : Int32) => some (r14, v11))))))))
set_option maxHeartbeats 4000000 in
set_option maxRecDepth 100000 in
theorem t_X4_ones (l : Launch) (hnt : l.stackTraces = false) {E : Ev} {base : Nat} (hE : Adr YM E base) (σ : St) (a0 : Int32) (a1 : Int32) (a2 : Int32) (r : Int32 × St) (h : m_X4_ones σ a0 a1 a2 = some r) : Ctr l yX4_ones cX4_ones 6 (some .int) 3 70 YM E base [.ref (E.2.2 0), .int a0, .int a1, .int a2] σ (.ok (some (.int r.1))) r.2 := by
  unfold m_X4_ones at h
  refine ofV 2 (by decide +kernel) rfl hE hnt (Nat.le_of_ble_eq_true rfl) rfl (fun M hN K => ?_)
  refine v_aload0 (pc := 0) K dX4_ones_0 ?_
  refine v_ic0 (pc := 1) K dX4_ones_1 ?_
  refine v_put (pc := 2) K fw_RX4_69 dX4_ones_2 rfl rfl (Nat.le_of_ble_eq_true rfl) rfl rfl ?_
  refine v_aload0 (pc := 5) K dX4_ones_5 ?_
  refine v_iload1 (pc := 6) K dX4_ones_6 ?_
  refine v_iload3 (pc := 7) K dX4_ones_7 ?_
  obtain ⟨v1, h2, h⟩ := bd h
  refine v_cV2I (pc := 8)  K ca_yX4_areIn ml_RX4_164 (Nat.le_of_ble_eq_true rfl) rfl rfl (t_X4_areIn _ K.nt K.ad (sI σ 0 0 (0 : Int32)) a0 a2 v1 h2) (Nat.le_of_ble_eq_true rfl) (by decide) (by decide) dX4_ones_8 ?_
  refine v_if_eq (pc := 11) (tgt := 32) K dX4_ones_11 (by decide) (fun c3 => ?_) (fun c3 => ?_)
  · have h := it c3 h
    refine v_aload0 (pc := 32) K dX4_ones_32 ?_
    refine v_ic1 (pc := 33) K dX4_ones_33 ?_
    obtain ⟨v4, h5, h⟩ := bd h
    refine v_cV1I (pc := 34)  K ca_yX4_fails ml_RX4_105 (Nat.le_of_ble_eq_true rfl) rfl rfl (t_X4_fails _ K.nt K.ad (sI σ 0 0 (0 : Int32)) (1 : Int32) v4 h5) (Nat.le_of_ble_eq_true rfl) (by decide) (by decide) dX4_ones_34 ?_
    cases h
    exact v_iret (pc := 37) K dX4_ones_37 rfl rfl
  · have h := ie c3 h
    refine v_iload2 (pc := 14) K dX4_ones_14 ?_
    refine v_i2l (pc := 15) K dX4_ones_15 ?_
    refine v_lc0 (pc := 16) K dX4_ones_16 ?_
    refine v_aload0 (pc := 17) K dX4_ones_17 ?_
    refine v_getR (pc := 18) K fl_RX4_17 dX4_ones_18 (Nat.le_of_ble_eq_true rfl) rfl rfl ?_
    refine v_iload1 (pc := 21) K dX4_ones_21 ?_
    obtain ⟨j6, h7, h⟩ := bd h
    refine v_iaload (pc := 22) K dX4_ones_22 (Nat.le_of_ble_eq_true rfl) rfl h7 ?_
    refine v_ic1 (pc := 23) K dX4_ones_23 ?_
    refine v_isub (pc := 24) K dX4_ones_24 ?_
    refine v_i2l (pc := 25) K dX4_ones_25 ?_
    obtain ⟨v8, h9, h⟩ := bd h
    refine v_cS3I (pc := 26)  K ca_yX4_isIn ml_RX4_76 (t_X4_isIn _ K.nt K.ad (sI σ 0 0 (0 : Int32)) ((a1).toInt64) (0 : Int64) ((((sI σ 0 0 (0 : Int32)).1 3 j6 - (1 : Int32))).toInt64) v8 h9) (Nat.le_of_ble_eq_true rfl) (by decide) (by decide) dX4_ones_26 ?_
    refine v_if_ne (pc := 29) (tgt := 38) K dX4_ones_29 (by decide) (fun c10 => ?_) (fun c10 => ?_)
    · have h := ie c10 h
      refine v_aload0 (pc := 38) K dX4_ones_38 ?_
      refine v_iload1 (pc := 39) K dX4_ones_39 ?_
      refine v_iload3 (pc := 40) K dX4_ones_40 ?_
      obtain ⟨v11, h12, h⟩ := bd h
      refine v_cV2U (pc := 41)  K ca_yX4_lists ml_RX4_199 (Nat.le_of_ble_eq_true rfl) rfl rfl (t_X4_lists _ K.nt K.ad (sI σ 0 0 (0 : Int32)) a0 a2 v11 h12) (Nat.le_of_ble_eq_true rfl) (by decide) (by decide) dX4_ones_41 ?_
      refine v_ic0 (pc := 44) K dX4_ones_44 ?_
      refine v_istore4 (pc := 45) K dX4_ones_45 rfl (Nat.le_of_ble_eq_true rfl) ?_
      refine v_ic0 (pc := 47) K dX4_ones_47 ?_
      refine v_istore5 (pc := 48) K dX4_ones_48 rfl (Nat.le_of_ble_eq_true rfl) ?_
      obtain ⟨r14, h16, h⟩ := bd h
      have hJ15 : V (mkX M YM E base 6 (.ok (some (.int r.1))) r.2) v11 82 [none, none, none, none, some (.int r14), none] [] := by
        refine v_iload4 (pc := 82) K dX4_ones_82 ?_
        cases h
        exact v_iret (pc := 84) K dX4_ones_84 rfl rfl
      clear h
      refine v_fg [true, false, true, false, true, true] ?_
      have hL23 := lpv h16 (fun s13 : Int32 × Int32 => V (mkX M YM E base 6 (.ok (some (.int r.1))) r.2) v11 50 [some (.ref (E.2.2 0)), none, some (.int a1), none, some (.int s13.1), some (.int s13.2)] [])
      refine hL23 (fun s13 o h hk => ?_)
      refine v_iload5 (pc := 50) K dX4_ones_50 ?_
      refine v_aload0 (pc := 52) K dX4_ones_52 ?_
      refine v_getI (pc := 53) K fl_RX4_196 dX4_ones_53 (Nat.le_of_ble_eq_true rfl) rfl rfl ?_
      refine v_icmp_ge (pc := 56) (tgt := 82) K dX4_ones_56 (by decide) (fun c20 => ?_) (fun c20 => ?_)
      · have h := it c20 h
        have e := lx h hk
        cases e
        exact v_fg [false, true, false, true, true, false] hJ15
      · have h := ie c20 h
        refine v_iload4 (pc := 59) K dX4_ones_59 ?_
        refine v_aload0 (pc := 61) K dX4_ones_61 ?_
        refine v_getR (pc := 62) K fl_RX4_27 dX4_ones_62 (Nat.le_of_ble_eq_true rfl) rfl rfl ?_
        refine v_iload5 (pc := 65) K dX4_ones_65 ?_
        obtain ⟨j21, h22, h⟩ := bd h
        refine v_laload (pc := 67) K dX4_ones_67 (Nat.le_of_ble_eq_true rfl) rfl h22 ?_
        refine v_iload2 (pc := 68) K dX4_ones_68 ?_
        refine v_lshr (pc := 69) K dX4_ones_69 ?_
        refine v_lc1 (pc := 70) K dX4_ones_70 ?_
        refine v_land (pc := 71) K dX4_ones_71 ?_
        refine v_l2i (pc := 72) K dX4_ones_72 ?_
        refine v_iadd (pc := 73) K dX4_ones_73 ?_
        refine v_istore4 (pc := 74) K dX4_ones_74 rfl (Nat.le_of_ble_eq_true rfl) ?_
        refine v_iinc5 (pc := 76) (w := 1) K dX4_ones_76 rfl (Nat.le_of_ble_eq_true rfl) (by decide) ?_
        refine v_goto (pc := 79) (tgt := 50) K dX4_ones_79 (by decide) ?_
        have e := lfc h hk
        exact e
    · have h := it c10 h
      refine v_aload0 (pc := 32) K dX4_ones_32 ?_
      refine v_ic1 (pc := 33) K dX4_ones_33 ?_
      obtain ⟨v24, h25, h⟩ := bd h
      refine v_cV1I (pc := 34)  K ca_yX4_fails ml_RX4_105 (Nat.le_of_ble_eq_true rfl) rfl rfl (t_X4_fails _ K.nt K.ad (sI σ 0 0 (0 : Int32)) (1 : Int32) v24 h25) (Nat.le_of_ble_eq_true rfl) (by decide) (by decide) dX4_ones_34 ?_
      cases h
      exact v_iret (pc := 37) K dX4_ones_37 rfl rfl
set_option maxRecDepth 100000 in
def m_X4_where (σ : St) (a0 : Int32) (a1 : Int32) (a2 : Int64) : Option (Int32 × St) :=
  ((m_X4_areIn (sI σ 0 0 (0 : Int32)) a0 a1).bind fun v1 => (if v1 = 0 then ((m_X4_fails (sI σ 0 0 (0 : Int32)) (1 : Int32)).bind fun v21 => some (v21.1, v21.2)) else (eB (lp 5000 (fun (s4 : Int32) => (if (sI σ 0 0 (0 : Int32)).1 0 5 ≤ s4 then some (.inr (.inl ())) else ((m_X4_hasUnder (sI σ 0 0 (0 : Int32)) a0 s4 a1).bind fun v12 => (if v12 = 0 then some (.inl (s4 + 1)) else ((m_X4_at (sI σ 0 0 (0 : Int32)) a0 s4).bind fun v15 => ((ix v15 1152).bind fun j17 => (if (sI σ 0 0 (0 : Int32)).2 1 j17 = a2 then some (.inr (.inr (s4, (sI σ 0 0 (0 : Int32))))) else some (.inl (s4 + 1))))))))) (0 : Int32)) fun (r5 : Unit) => some (((-1) : Int32), (sI σ 0 0 (0 : Int32))))))
set_option maxHeartbeats 4000000 in
set_option maxRecDepth 100000 in
theorem t_X4_where (l : Launch) (hnt : l.stackTraces = false) {E : Ev} {base : Nat} (hE : Adr YM E base) (σ : St) (a0 : Int32) (a1 : Int32) (a2 : Int64) (r : Int32 × St) (h : m_X4_where σ a0 a1 a2 = some r) : Ctr l yX4_where cX4_where 6 (some .int) 3 68 YM E base [.ref (E.2.2 0), .int a0, .int a1, .long a2] σ (.ok (some (.int r.1))) r.2 := by
  unfold m_X4_where at h
  refine ofV 1 (by decide +kernel) rfl hE hnt (Nat.le_of_ble_eq_true rfl) rfl (fun M hN K => ?_)
  refine v_aload0 (pc := 0) K dX4_where_0 ?_
  refine v_ic0 (pc := 1) K dX4_where_1 ?_
  refine v_put (pc := 2) K fw_RX4_69 dX4_where_2 rfl rfl (Nat.le_of_ble_eq_true rfl) rfl rfl ?_
  refine v_aload0 (pc := 5) K dX4_where_5 ?_
  refine v_iload1 (pc := 6) K dX4_where_6 ?_
  refine v_iload2 (pc := 7) K dX4_where_7 ?_
  obtain ⟨v1, h2, h⟩ := bd h
  refine v_cV2I (pc := 8)  K ca_yX4_areIn ml_RX4_164 (Nat.le_of_ble_eq_true rfl) rfl rfl (t_X4_areIn _ K.nt K.ad (sI σ 0 0 (0 : Int32)) a0 a1 v1 h2) (Nat.le_of_ble_eq_true rfl) (by decide) (by decide) dX4_where_8 ?_
  refine v_if_ne (pc := 11) (tgt := 20) K dX4_where_11 (by decide) (fun c3 => ?_) (fun c3 => ?_)
  · have h := ie c3 h
    refine v_ic0 (pc := 20) K dX4_where_20 ?_
    refine v_istore5 (pc := 21) K dX4_where_21 rfl (Nat.le_of_ble_eq_true rfl) ?_
    obtain ⟨w10, h7, hi8, hq9⟩ := eb h
    have hJ6 : ∀ r5 : Unit, w10 = .inl r5 → V (mkX M YM E base 6 (.ok (some (.int r.1))) r.2) (sI σ 0 0 (0 : Int32)) 68 [none, none, none, none, none, none] [] := by
      intro r5 ha
      have h := hi8 _ ha
      refine v_icm1 (pc := 68) K dX4_where_68 ?_
      cases h
      exact v_iret (pc := 69) K dX4_where_69 rfl rfl
    clear h
    have hL20 := lpv h7 (fun s4 : Int32 => V (mkX M YM E base 6 (.ok (some (.int r.1))) r.2) (sI σ 0 0 (0 : Int32)) 23 [some (.ref (E.2.2 0)), some (.int a0), some (.int a1), some (.long a2), none, some (.int s4)] [])
    refine hL20 (fun s4 o h hk => ?_)
    refine v_iload5 (pc := 23) K dX4_where_23 ?_
    refine v_aload0 (pc := 25) K dX4_where_25 ?_
    refine v_getI (pc := 26) K fl_RX4_80 dX4_where_26 (Nat.le_of_ble_eq_true rfl) rfl rfl ?_
    refine v_icmp_ge (pc := 29) (tgt := 68) K dX4_where_29 (by decide) (fun c11 => ?_) (fun c11 => ?_)
    · have h := it c11 h
      have e := lx h hk
      exact v_fg [false, false, false, false, true, false] (hJ6 _ e.symm)
    · have h := ie c11 h
      refine v_aload0 (pc := 32) K dX4_where_32 ?_
      refine v_iload1 (pc := 33) K dX4_where_33 ?_
      refine v_iload5 (pc := 34) K dX4_where_34 ?_
      refine v_iload2 (pc := 36) K dX4_where_36 ?_
      obtain ⟨v12, h13, h⟩ := bd h
      refine v_cV3I (pc := 37)  K ca_yX4_hasUnder ml_RX4_170 (Nat.le_of_ble_eq_true rfl) rfl rfl (t_X4_hasUnder _ K.nt K.ad (sI σ 0 0 (0 : Int32)) a0 s4 a1 v12 h13) (Nat.le_of_ble_eq_true rfl) (by decide) (by decide) dX4_where_37 ?_
      refine v_if_eq (pc := 40) (tgt := 62) K dX4_where_40 (by decide) (fun c14 => ?_) (fun c14 => ?_)
      · have h := it c14 h
        refine v_iinc5 (pc := 62) (w := 1) K dX4_where_62 rfl (Nat.le_of_ble_eq_true rfl) (by decide) ?_
        refine v_goto (pc := 65) (tgt := 23) K dX4_where_65 (by decide) ?_
        have e := lfc h hk
        exact e
      · have h := ie c14 h
        refine v_aload0 (pc := 43) K dX4_where_43 ?_
        refine v_getR (pc := 44) K fl_RX4_7 dX4_where_44 (Nat.le_of_ble_eq_true rfl) rfl rfl ?_
        refine v_iload1 (pc := 47) K dX4_where_47 ?_
        refine v_iload5 (pc := 48) K dX4_where_48 ?_
        obtain ⟨v15, h16, h⟩ := bd h
        refine v_cS2I (pc := 50)  K ca_yX4_at ml_RX4_94 (t_X4_at _ K.nt K.ad (sI σ 0 0 (0 : Int32)) a0 s4 v15 h16) (Nat.le_of_ble_eq_true rfl) (by decide) (by decide) dX4_where_50 ?_
        obtain ⟨j17, h18, h⟩ := bd h
        refine v_laload (pc := 53) K dX4_where_53 (Nat.le_of_ble_eq_true rfl) rfl h18 ?_
        refine v_lload3 (pc := 54) K dX4_where_54 ?_
        refine v_lc_ne (pc := 55) (tgt := 62) K dX4_where_55 dX4_where_56 (by decide) (fun c19 => ?_) (fun c19 => ?_)
        · have h := ie c19 h
          refine v_iinc5 (pc := 62) (w := 1) K dX4_where_62 rfl (Nat.le_of_ble_eq_true rfl) (by decide) ?_
          refine v_goto (pc := 65) (tgt := 23) K dX4_where_65 (by decide) ?_
          have e := lfc h hk
          exact e
        · have h := it c19 h
          refine v_iload5 (pc := 59) K dX4_where_59 ?_
          have h := congrArg some (hq9 _ (lx h hk).symm)
          cases h
          exact v_iret (pc := 61) K dX4_where_61 rfl rfl
  · have h := it c3 h
    refine v_aload0 (pc := 14) K dX4_where_14 ?_
    refine v_ic1 (pc := 15) K dX4_where_15 ?_
    obtain ⟨v21, h22, h⟩ := bd h
    refine v_cV1I (pc := 16)  K ca_yX4_fails ml_RX4_105 (Nat.le_of_ble_eq_true rfl) rfl rfl (t_X4_fails _ K.nt K.ad (sI σ 0 0 (0 : Int32)) (1 : Int32) v21 h22) (Nat.le_of_ble_eq_true rfl) (by decide) (by decide) dX4_where_16 ?_
    cases h
    exact v_iret (pc := 19) K dX4_where_19 rfl rfl
set_option maxRecDepth 100000 in
def m_X4_dot (σ : St) (a0 : Int32) (a1 : Int32) (a2 : Int32) : Option (Int64 × St) :=
  ((m_X4_areIn (sI σ 0 0 (0 : Int32)) a0 a2).bind fun v1 => (if v1 = 0 then ((m_X4_fails (sI σ 0 0 (0 : Int32)) (1 : Int32)).bind fun v4 => some ((v4.1).toInt64, v4.2)) else ((m_X4_isColumn (sI σ 0 0 (0 : Int32)) a1).bind fun v6 => (if v6 = 0 then ((m_X4_fails (sI σ 0 0 (0 : Int32)) (1 : Int32)).bind fun v43 => some ((v43.1).toInt64, v43.2)) else ((m_X4_noSum (sI σ 0 0 (0 : Int32))).bind fun v9 => ((lp 5000 (fun (s11 : Int32 × St) => (if s11.2.1 0 5 ≤ s11.1 then some (.inr s11.2) else ((m_X4_hasUnder s11.2 a0 s11.1 a2).bind fun v19 => ((if v19 = 0 then some s11.2 else ((m_X4_at s11.2 a1 s11.1).bind fun v25 => ((ix v25 1152).bind fun j27 => (if s11.2.1 2 j27 = 0 then some s11.2 else ((m_X4_at s11.2 a0 s11.1).bind fun v30 => ((ix v30 1152).bind fun j32 => ((m_X4_at s11.2 a1 s11.1).bind fun v34 => ((ix v34 1152).bind fun j36 => ((m_X4_adds s11.2 (s11.2.2 1 j32) (s11.2.2 1 j36)).bind fun v38 => some v38))))))))).bind fun (t21 : St) => some (.inl ((s11.1 + 1), t21)))))) ((0 : Int32), v9)).bind fun (r12 : St) => ((m_X4_sumOr r12 (2 : Int32)).bind fun v40 => some (v40.1, v40.2))))))))
set_option maxHeartbeats 4000000 in
set_option maxRecDepth 100000 in
theorem t_X4_dot (l : Launch) (hnt : l.stackTraces = false) {E : Ev} {base : Nat} (hE : Adr YM E base) (σ : St) (a0 : Int32) (a1 : Int32) (a2 : Int32) (r : Int64 × St) (h : m_X4_dot σ a0 a1 a2 = some r) : Ctr l yX4_dot cX4_dot 5 (some .long) 3 68 YM E base [.ref (E.2.2 0), .int a0, .int a1, .int a2] σ (.ok (some (.long r.1))) r.2 := by
  unfold m_X4_dot at h
  refine ofV 1 (by decide +kernel) rfl hE hnt (Nat.le_of_ble_eq_true rfl) rfl (fun M hN K => ?_)
  refine v_aload0 (pc := 0) K dX4_dot_0 ?_
  refine v_ic0 (pc := 1) K dX4_dot_1 ?_
  refine v_put (pc := 2) K fw_RX4_69 dX4_dot_2 rfl rfl (Nat.le_of_ble_eq_true rfl) rfl rfl ?_
  refine v_aload0 (pc := 5) K dX4_dot_5 ?_
  refine v_iload1 (pc := 6) K dX4_dot_6 ?_
  refine v_iload3 (pc := 7) K dX4_dot_7 ?_
  obtain ⟨v1, h2, h⟩ := bd h
  refine v_cV2I (pc := 8)  K ca_yX4_areIn ml_RX4_164 (Nat.le_of_ble_eq_true rfl) rfl rfl (t_X4_areIn _ K.nt K.ad (sI σ 0 0 (0 : Int32)) a0 a2 v1 h2) (Nat.le_of_ble_eq_true rfl) (by decide) (by decide) dX4_dot_8 ?_
  refine v_if_eq (pc := 11) (tgt := 22) K dX4_dot_11 (by decide) (fun c3 => ?_) (fun c3 => ?_)
  · have h := it c3 h
    refine v_aload0 (pc := 22) K dX4_dot_22 ?_
    refine v_ic1 (pc := 23) K dX4_dot_23 ?_
    obtain ⟨v4, h5, h⟩ := bd h
    refine v_cV1I (pc := 24)  K ca_yX4_fails ml_RX4_105 (Nat.le_of_ble_eq_true rfl) rfl rfl (t_X4_fails _ K.nt K.ad (sI σ 0 0 (0 : Int32)) (1 : Int32) v4 h5) (Nat.le_of_ble_eq_true rfl) (by decide) (by decide) dX4_dot_24 ?_
    refine v_i2l (pc := 27) K dX4_dot_27 ?_
    cases h
    exact v_lret (pc := 28) K dX4_dot_28 rfl rfl
  · have h := ie c3 h
    refine v_aload0 (pc := 14) K dX4_dot_14 ?_
    refine v_iload2 (pc := 15) K dX4_dot_15 ?_
    obtain ⟨v6, h7, h⟩ := bd h
    refine v_cV1I (pc := 16)  K ca_yX4_isColumn ml_RX4_87 (Nat.le_of_ble_eq_true rfl) rfl rfl (t_X4_isColumn _ K.nt K.ad (sI σ 0 0 (0 : Int32)) a1 v6 h7) (Nat.le_of_ble_eq_true rfl) (by decide) (by decide) dX4_dot_16 ?_
    refine v_if_ne (pc := 19) (tgt := 29) K dX4_dot_19 (by decide) (fun c8 => ?_) (fun c8 => ?_)
    · have h := ie c8 h
      refine v_aload0 (pc := 29) K dX4_dot_29 ?_
      obtain ⟨v9, h10, h⟩ := bd h
      refine v_cV0U (pc := 30)  K ca_yX4_noSum ml_RX4_222 (Nat.le_of_ble_eq_true rfl) rfl rfl (t_X4_noSum _ K.nt K.ad (sI σ 0 0 (0 : Int32)) v9 h10) (Nat.le_of_ble_eq_true rfl) (by decide) (by decide) dX4_dot_30 ?_
      refine v_ic0 (pc := 33) K dX4_dot_33 ?_
      refine v_istore4 (pc := 34) K dX4_dot_34 rfl (Nat.le_of_ble_eq_true rfl) ?_
      obtain ⟨r12, h14, h⟩ := bd h
      have hJ13 : V (mkX M YM E base 5 (.ok (some (.long r.1))) r.2) r12 102 [some (.ref (E.2.2 0)), none, none, none, none] [] := by
        refine v_aload0 (pc := 102) K dX4_dot_102 ?_
        refine v_ic2 (pc := 103) K dX4_dot_103 ?_
        obtain ⟨v40, h41, h⟩ := bd h
        refine v_cV1L (pc := 104)  K ca_yX4_sumOr ml_RX4_229 (Nat.le_of_ble_eq_true rfl) rfl rfl (t_X4_sumOr _ K.nt K.ad r12 (2 : Int32) v40 h41) (Nat.le_of_ble_eq_true rfl) (by decide) (by decide) dX4_dot_104 ?_
        cases h
        exact v_lret (pc := 107) K dX4_dot_107 rfl rfl
      clear h
      have hL42 := lpv h14 (fun s11 : Int32 × St => V (mkX M YM E base 5 (.ok (some (.long r.1))) r.2) s11.2 36 [some (.ref (E.2.2 0)), some (.int a0), some (.int a1), some (.int a2), some (.int s11.1)] [])
      refine hL42 (fun s11 o h hk => ?_)
      refine v_iload4 (pc := 36) K dX4_dot_36 ?_
      refine v_aload0 (pc := 38) K dX4_dot_38 ?_
      refine v_getI (pc := 39) K fl_RX4_80 dX4_dot_39 (Nat.le_of_ble_eq_true rfl) rfl rfl ?_
      refine v_icmp_ge (pc := 42) (tgt := 102) K dX4_dot_42 (by decide) (fun c18 => ?_) (fun c18 => ?_)
      · have h := it c18 h
        have e := lx h hk
        cases e
        exact v_fg [true, false, false, false, false] hJ13
      · have h := ie c18 h
        refine v_aload0 (pc := 45) K dX4_dot_45 ?_
        refine v_iload1 (pc := 46) K dX4_dot_46 ?_
        refine v_iload4 (pc := 47) K dX4_dot_47 ?_
        refine v_iload3 (pc := 49) K dX4_dot_49 ?_
        obtain ⟨v19, h20, h⟩ := bd h
        refine v_cV3I (pc := 50)  K ca_yX4_hasUnder ml_RX4_170 (Nat.le_of_ble_eq_true rfl) rfl rfl (t_X4_hasUnder _ K.nt K.ad s11.2 a0 s11.1 a2 v19 h20) (Nat.le_of_ble_eq_true rfl) (by decide) (by decide) dX4_dot_50 ?_
        obtain ⟨t21, h23, h⟩ := bd h
        have hJ22 : V (mkX M YM E base 5 (.ok (some (.long r.1))) r.2) t21 96 [some (.ref (E.2.2 0)), some (.int a0), some (.int a1), some (.int a2), some (.int s11.1)] [] := by
          refine v_iinc4 (pc := 96) (w := 1) K dX4_dot_96 rfl (Nat.le_of_ble_eq_true rfl) (by decide) ?_
          refine v_goto (pc := 99) (tgt := 36) K dX4_dot_99 (by decide) ?_
          have e := lfc h hk
          exact e
        clear h
        have h := h23
        refine v_if_eq (pc := 53) (tgt := 96) K dX4_dot_53 (by decide) (fun c24 => ?_) (fun c24 => ?_)
        · have h := it c24 h
          cases h
          exact hJ22
        · have h := ie c24 h
          refine v_aload0 (pc := 56) K dX4_dot_56 ?_
          refine v_getR (pc := 57) K fl_RX4_13 dX4_dot_57 (Nat.le_of_ble_eq_true rfl) rfl rfl ?_
          refine v_iload2 (pc := 60) K dX4_dot_60 ?_
          refine v_iload4 (pc := 61) K dX4_dot_61 ?_
          obtain ⟨v25, h26, h⟩ := bd h
          refine v_cS2I (pc := 63)  K ca_yX4_at ml_RX4_94 (t_X4_at _ K.nt K.ad s11.2 a1 s11.1 v25 h26) (Nat.le_of_ble_eq_true rfl) (by decide) (by decide) dX4_dot_63 ?_
          obtain ⟨j27, h28, h⟩ := bd h
          refine v_zaload (pc := 66) K dX4_dot_66 (Nat.le_of_ble_eq_true rfl) rfl h28 ?_
          refine v_if_eq (pc := 67) (tgt := 96) K dX4_dot_67 (by decide) (fun c29 => ?_) (fun c29 => ?_)
          · have h := it c29 h
            cases h
            exact hJ22
          · have h := ie c29 h
            refine v_aload0 (pc := 70) K dX4_dot_70 ?_
            refine v_aload0 (pc := 71) K dX4_dot_71 ?_
            refine v_getR (pc := 72) K fl_RX4_7 dX4_dot_72 (Nat.le_of_ble_eq_true rfl) rfl rfl ?_
            refine v_iload1 (pc := 75) K dX4_dot_75 ?_
            refine v_iload4 (pc := 76) K dX4_dot_76 ?_
            obtain ⟨v30, h31, h⟩ := bd h
            refine v_cS2I (pc := 78)  K ca_yX4_at ml_RX4_94 (t_X4_at _ K.nt K.ad s11.2 a0 s11.1 v30 h31) (Nat.le_of_ble_eq_true rfl) (by decide) (by decide) dX4_dot_78 ?_
            obtain ⟨j32, h33, h⟩ := bd h
            refine v_laload (pc := 81) K dX4_dot_81 (Nat.le_of_ble_eq_true rfl) rfl h33 ?_
            refine v_aload0 (pc := 82) K dX4_dot_82 ?_
            refine v_getR (pc := 83) K fl_RX4_7 dX4_dot_83 (Nat.le_of_ble_eq_true rfl) rfl rfl ?_
            refine v_iload2 (pc := 86) K dX4_dot_86 ?_
            refine v_iload4 (pc := 87) K dX4_dot_87 ?_
            obtain ⟨v34, h35, h⟩ := bd h
            refine v_cS2I (pc := 89)  K ca_yX4_at ml_RX4_94 (t_X4_at _ K.nt K.ad s11.2 a1 s11.1 v34 h35) (Nat.le_of_ble_eq_true rfl) (by decide) (by decide) dX4_dot_89 ?_
            obtain ⟨j36, h37, h⟩ := bd h
            refine v_laload (pc := 92) K dX4_dot_92 (Nat.le_of_ble_eq_true rfl) rfl h37 ?_
            obtain ⟨v38, h39, h⟩ := bd h
            refine v_cV2U (pc := 93)  K ca_yX4_adds ml_RX4_225 (Nat.le_of_ble_eq_true rfl) rfl rfl (t_X4_adds _ K.nt K.ad s11.2 (s11.2.2 1 j32) (s11.2.2 1 j36) v38 h39) (Nat.le_of_ble_eq_true rfl) (by decide) (by decide) dX4_dot_93 ?_
            cases h
            exact hJ22
    · have h := it c8 h
      refine v_aload0 (pc := 22) K dX4_dot_22 ?_
      refine v_ic1 (pc := 23) K dX4_dot_23 ?_
      obtain ⟨v43, h44, h⟩ := bd h
      refine v_cV1I (pc := 24)  K ca_yX4_fails ml_RX4_105 (Nat.le_of_ble_eq_true rfl) rfl rfl (t_X4_fails _ K.nt K.ad (sI σ 0 0 (0 : Int32)) (1 : Int32) v43 h44) (Nat.le_of_ble_eq_true rfl) (by decide) (by decide) dX4_dot_24 ?_
      refine v_i2l (pc := 27) K dX4_dot_27 ?_
      cases h
      exact v_lret (pc := 28) K dX4_dot_28 rfl rfl
set_option maxRecDepth 100000 in
def m_X4_steps (σ : St) (a0 : Int32) (a1 : Int32) : Option (Int64 × St) :=
  ((m_X4_areIn (sI σ 0 0 (0 : Int32)) a0 a1).bind fun v1 => (if v1 = 0 then ((m_X4_fails (sI σ 0 0 (0 : Int32)) (1 : Int32)).bind fun v39 => some ((v39.1).toInt64, v39.2)) else ((m_X4_noSum (sI σ 0 0 (0 : Int32))).bind fun v4 => ((lp 5000 (fun (s6 : Int32 × Int32 × St) => (if s6.2.2.1 0 5 ≤ s6.2.1 then some (.inr s6.2.2) else ((m_X4_hasUnder s6.2.2 a0 s6.2.1 a1).bind fun v14 => ((if v14 = 0 then some (s6.1, s6.2.2) else ((if s6.1 = ((-1) : Int32) then some s6.2.2 else ((m_X4_at s6.2.2 a0 s6.2.1).bind fun v24 => ((ix v24 1152).bind fun j26 => ((m_X4_at s6.2.2 a0 s6.1).bind fun v28 => ((ix v28 1152).bind fun j30 => ((m_X4_amountOf s6.2.2 (s6.2.2.2 1 j26 - s6.2.2.2 1 j30)).bind fun v32 => ((m_X4_adds s6.2.2 v32 (1 : Int64)).bind fun v34 => some v34))))))).bind fun (t20 : St) => some (s6.2.1, t20))).bind fun (t16 : Int32 × St) => some (.inl (t16.1, (s6.2.1 + 1), t16.2)))))) (((-1) : Int32), (0 : Int32), v4)).bind fun (r7 : St) => ((m_X4_sumOr r7 (2 : Int32)).bind fun v36 => some (v36.1, v36.2))))))
set_option maxHeartbeats 4000000 in
set_option maxRecDepth 100000 in
theorem t_X4_steps (l : Launch) (hnt : l.stackTraces = false) {E : Ev} {base : Nat} (hE : Adr YM E base) (σ : St) (a0 : Int32) (a1 : Int32) (r : Int64 × St) (h : m_X4_steps σ a0 a1 = some r) : Ctr l yX4_steps cX4_steps 5 (some .long) 3 68 YM E base [.ref (E.2.2 0), .int a0, .int a1] σ (.ok (some (.long r.1))) r.2 := by
  unfold m_X4_steps at h
  refine ofV 2 (by decide +kernel) rfl hE hnt (Nat.le_of_ble_eq_true rfl) rfl (fun M hN K => ?_)
  refine v_aload0 (pc := 0) K dX4_steps_0 ?_
  refine v_ic0 (pc := 1) K dX4_steps_1 ?_
  refine v_put (pc := 2) K fw_RX4_69 dX4_steps_2 rfl rfl (Nat.le_of_ble_eq_true rfl) rfl rfl ?_
  refine v_aload0 (pc := 5) K dX4_steps_5 ?_
  refine v_iload1 (pc := 6) K dX4_steps_6 ?_
  refine v_iload2 (pc := 7) K dX4_steps_7 ?_
  obtain ⟨v1, h2, h⟩ := bd h
  refine v_cV2I (pc := 8)  K ca_yX4_areIn ml_RX4_164 (Nat.le_of_ble_eq_true rfl) rfl rfl (t_X4_areIn _ K.nt K.ad (sI σ 0 0 (0 : Int32)) a0 a1 v1 h2) (Nat.le_of_ble_eq_true rfl) (by decide) (by decide) dX4_steps_8 ?_
  refine v_if_ne (pc := 11) (tgt := 21) K dX4_steps_11 (by decide) (fun c3 => ?_) (fun c3 => ?_)
  · have h := ie c3 h
    refine v_aload0 (pc := 21) K dX4_steps_21 ?_
    obtain ⟨v4, h5, h⟩ := bd h
    refine v_cV0U (pc := 22)  K ca_yX4_noSum ml_RX4_222 (Nat.le_of_ble_eq_true rfl) rfl rfl (t_X4_noSum _ K.nt K.ad (sI σ 0 0 (0 : Int32)) v4 h5) (Nat.le_of_ble_eq_true rfl) (by decide) (by decide) dX4_steps_22 ?_
    refine v_icm1 (pc := 25) K dX4_steps_25 ?_
    refine v_istore3 (pc := 26) K dX4_steps_26 rfl (Nat.le_of_ble_eq_true rfl) ?_
    refine v_ic0 (pc := 27) K dX4_steps_27 ?_
    refine v_istore4 (pc := 28) K dX4_steps_28 rfl (Nat.le_of_ble_eq_true rfl) ?_
    obtain ⟨r7, h9, h⟩ := bd h
    have hJ8 : V (mkX M YM E base 5 (.ok (some (.long r.1))) r.2) r7 97 [some (.ref (E.2.2 0)), none, none, none, none] [] := by
      refine v_aload0 (pc := 97) K dX4_steps_97 ?_
      refine v_ic2 (pc := 98) K dX4_steps_98 ?_
      obtain ⟨v36, h37, h⟩ := bd h
      refine v_cV1L (pc := 99)  K ca_yX4_sumOr ml_RX4_229 (Nat.le_of_ble_eq_true rfl) rfl rfl (t_X4_sumOr _ K.nt K.ad r7 (2 : Int32) v36 h37) (Nat.le_of_ble_eq_true rfl) (by decide) (by decide) dX4_steps_99 ?_
      cases h
      exact v_lret (pc := 102) K dX4_steps_102 rfl rfl
    clear h
    have hL38 := lpv h9 (fun s6 : Int32 × Int32 × St => V (mkX M YM E base 5 (.ok (some (.long r.1))) r.2) s6.2.2 30 [some (.ref (E.2.2 0)), some (.int a0), some (.int a1), some (.int s6.1), some (.int s6.2.1)] [])
    refine hL38 (fun s6 o h hk => ?_)
    refine v_iload4 (pc := 30) K dX4_steps_30 ?_
    refine v_aload0 (pc := 32) K dX4_steps_32 ?_
    refine v_getI (pc := 33) K fl_RX4_80 dX4_steps_33 (Nat.le_of_ble_eq_true rfl) rfl rfl ?_
    refine v_icmp_ge (pc := 36) (tgt := 97) K dX4_steps_36 (by decide) (fun c13 => ?_) (fun c13 => ?_)
    · have h := it c13 h
      have e := lx h hk
      cases e
      exact v_fg [true, false, false, false, false] hJ8
    · have h := ie c13 h
      refine v_aload0 (pc := 39) K dX4_steps_39 ?_
      refine v_iload1 (pc := 40) K dX4_steps_40 ?_
      refine v_iload4 (pc := 41) K dX4_steps_41 ?_
      refine v_iload2 (pc := 43) K dX4_steps_43 ?_
      obtain ⟨v14, h15, h⟩ := bd h
      refine v_cV3I (pc := 44)  K ca_yX4_hasUnder ml_RX4_170 (Nat.le_of_ble_eq_true rfl) rfl rfl (t_X4_hasUnder _ K.nt K.ad s6.2.2 a0 s6.2.1 a1 v14 h15) (Nat.le_of_ble_eq_true rfl) (by decide) (by decide) dX4_steps_44 ?_
      obtain ⟨t16, h18, h⟩ := bd h
      have hJ17 : V (mkX M YM E base 5 (.ok (some (.long r.1))) r.2) t16.2 91 [some (.ref (E.2.2 0)), some (.int a0), some (.int a1), some (.int t16.1), some (.int s6.2.1)] [] := by
        refine v_iinc4 (pc := 91) (w := 1) K dX4_steps_91 rfl (Nat.le_of_ble_eq_true rfl) (by decide) ?_
        refine v_goto (pc := 94) (tgt := 30) K dX4_steps_94 (by decide) ?_
        have e := lfc h hk
        exact e
      clear h
      have h := h18
      refine v_if_ne (pc := 47) (tgt := 53) K dX4_steps_47 (by decide) (fun c19 => ?_) (fun c19 => ?_)
      · have h := ie c19 h
        refine v_iload3 (pc := 53) K dX4_steps_53 ?_
        refine v_icm1 (pc := 54) K dX4_steps_54 ?_
        obtain ⟨t20, h22, h⟩ := bd h
        have hJ21 : V (mkX M YM E base 5 (.ok (some (.long r.1))) r.2) t20 88 [some (.ref (E.2.2 0)), some (.int a0), some (.int a1), none, some (.int s6.2.1)] [] := by
          refine v_iload4 (pc := 88) K dX4_steps_88 ?_
          refine v_istore3 (pc := 90) K dX4_steps_90 rfl (Nat.le_of_ble_eq_true rfl) ?_
          cases h
          exact hJ17
        clear h
        have h := h22
        refine v_icmp_eq (pc := 55) (tgt := 88) K dX4_steps_55 (by decide) (fun c23 => ?_) (fun c23 => ?_)
        · have h := it c23 h
          cases h
          exact (v_fg [true, true, true, false, true] hJ21)
        · have h := ie c23 h
          refine v_aload0 (pc := 58) K dX4_steps_58 ?_
          refine v_aload0 (pc := 59) K dX4_steps_59 ?_
          refine v_getR (pc := 60) K fl_RX4_7 dX4_steps_60 (Nat.le_of_ble_eq_true rfl) rfl rfl ?_
          refine v_iload1 (pc := 63) K dX4_steps_63 ?_
          refine v_iload4 (pc := 64) K dX4_steps_64 ?_
          obtain ⟨v24, h25, h⟩ := bd h
          refine v_cS2I (pc := 66)  K ca_yX4_at ml_RX4_94 (t_X4_at _ K.nt K.ad s6.2.2 a0 s6.2.1 v24 h25) (Nat.le_of_ble_eq_true rfl) (by decide) (by decide) dX4_steps_66 ?_
          obtain ⟨j26, h27, h⟩ := bd h
          refine v_laload (pc := 69) K dX4_steps_69 (Nat.le_of_ble_eq_true rfl) rfl h27 ?_
          refine v_aload0 (pc := 70) K dX4_steps_70 ?_
          refine v_getR (pc := 71) K fl_RX4_7 dX4_steps_71 (Nat.le_of_ble_eq_true rfl) rfl rfl ?_
          refine v_iload1 (pc := 74) K dX4_steps_74 ?_
          refine v_iload3 (pc := 75) K dX4_steps_75 ?_
          obtain ⟨v28, h29, h⟩ := bd h
          refine v_cS2I (pc := 76)  K ca_yX4_at ml_RX4_94 (t_X4_at _ K.nt K.ad s6.2.2 a0 s6.1 v28 h29) (Nat.le_of_ble_eq_true rfl) (by decide) (by decide) dX4_steps_76 ?_
          obtain ⟨j30, h31, h⟩ := bd h
          refine v_laload (pc := 79) K dX4_steps_79 (Nat.le_of_ble_eq_true rfl) rfl h31 ?_
          refine v_lsub (pc := 80) K dX4_steps_80 ?_
          obtain ⟨v32, h33, h⟩ := bd h
          refine v_cS1L (pc := 81)  K ca_yX4_amountOf ml_RX4_207 (t_X4_amountOf _ K.nt K.ad s6.2.2 (s6.2.2.2 1 j26 - s6.2.2.2 1 j30) v32 h33) (Nat.le_of_ble_eq_true rfl) (by decide) (by decide) dX4_steps_81 ?_
          refine v_lc1 (pc := 84) K dX4_steps_84 ?_
          obtain ⟨v34, h35, h⟩ := bd h
          refine v_cV2U (pc := 85)  K ca_yX4_adds ml_RX4_225 (Nat.le_of_ble_eq_true rfl) rfl rfl (t_X4_adds _ K.nt K.ad s6.2.2 v32 (1 : Int64) v34 h35) (Nat.le_of_ble_eq_true rfl) (by decide) (by decide) dX4_steps_85 ?_
          cases h
          exact (v_fg [true, true, true, false, true] hJ21)
      · have h := it c19 h
        refine v_goto (pc := 50) (tgt := 91) K dX4_steps_50 (by decide) ?_
        cases h
        exact hJ17
  · have h := it c3 h
    refine v_aload0 (pc := 14) K dX4_steps_14 ?_
    refine v_ic1 (pc := 15) K dX4_steps_15 ?_
    obtain ⟨v39, h40, h⟩ := bd h
    refine v_cV1I (pc := 16)  K ca_yX4_fails ml_RX4_105 (Nat.le_of_ble_eq_true rfl) rfl rfl (t_X4_fails _ K.nt K.ad (sI σ 0 0 (0 : Int32)) (1 : Int32) v39 h40) (Nat.le_of_ble_eq_true rfl) (by decide) (by decide) dX4_steps_16 ?_
    refine v_i2l (pc := 19) K dX4_steps_19 ?_
    cases h
    exact v_lret (pc := 20) K dX4_steps_20 rfl rfl
set_option maxRecDepth 100000 in
def m_X4_fold (σ : St) (a0 : Int32) (a1 : Int32) (a2 : Int32) : Option (Int64 × St) :=
  ((m_X4_areIn (sI σ 0 0 (0 : Int32)) a0 a1).bind fun v1 => (if v1 = 0 then ((m_X4_fails (sI σ 0 0 (0 : Int32)) (1 : Int32)).bind fun v37 => some ((v37.1).toInt64, v37.2)) else ((m_X4_isIn (sI σ 0 0 (0 : Int32)) ((a2).toInt64) (0 : Int64) (2 : Int64)).bind fun v4 => (if v4 = 0 then ((m_X4_fails (sI σ 0 0 (0 : Int32)) (2 : Int32)).bind fun v35 => some ((v35.1).toInt64, v35.2)) else ((if a2 = 0 then some ((-1) : Int64) else some (0 : Int64)).bind fun (t7 : Int64) => ((lp 5000 (fun (s11 : Int64 × Int32) => (if (sI σ 0 0 (0 : Int32)).1 0 5 ≤ s11.2 then some (.inr s11.1) else ((m_X4_hasUnder (sI σ 0 0 (0 : Int32)) a0 s11.2 a1).bind fun v19 => ((if v19 = 0 then some s11.1 else ((m_X4_at (sI σ 0 0 (0 : Int32)) a0 s11.2).bind fun v25 => ((ix v25 1152).bind fun j27 => ((if a2 = 0 then some (s11.1 &&& (sI σ 0 0 (0 : Int32)).2 1 j27) else (if a2 = (1 : Int32) then some (s11.1 ||| (sI σ 0 0 (0 : Int32)).2 1 j27) else some (s11.1 ^^^ (sI σ 0 0 (0 : Int32)).2 1 j27))).bind fun (t29 : Int64) => some t29)))).bind fun (t21 : Int64) => some (.inl (t21, (s11.2 + 1))))))) (t7, (0 : Int32))).bind fun (r12 : Int64) => some (r12, (sI σ 0 0 (0 : Int32)))))))))
set_option maxHeartbeats 4000000 in
set_option maxRecDepth 100000 in
theorem t_X4_fold (l : Launch) (hnt : l.stackTraces = false) {E : Ev} {base : Nat} (hE : Adr YM E base) (σ : St) (a0 : Int32) (a1 : Int32) (a2 : Int32) (r : Int64 × St) (h : m_X4_fold σ a0 a1 a2 = some r) : Ctr l yX4_fold cX4_fold 9 (some .long) 3 68 YM E base [.ref (E.2.2 0), .int a0, .int a1, .int a2] σ (.ok (some (.long r.1))) r.2 := by
  unfold m_X4_fold at h
  refine ofV 5 (by decide +kernel) rfl hE hnt (Nat.le_of_ble_eq_true rfl) rfl (fun M hN K => ?_)
  refine v_aload0 (pc := 0) K dX4_fold_0 ?_
  refine v_ic0 (pc := 1) K dX4_fold_1 ?_
  refine v_put (pc := 2) K fw_RX4_69 dX4_fold_2 rfl rfl (Nat.le_of_ble_eq_true rfl) rfl rfl ?_
  refine v_aload0 (pc := 5) K dX4_fold_5 ?_
  refine v_iload1 (pc := 6) K dX4_fold_6 ?_
  refine v_iload2 (pc := 7) K dX4_fold_7 ?_
  obtain ⟨v1, h2, h⟩ := bd h
  refine v_cV2I (pc := 8)  K ca_yX4_areIn ml_RX4_164 (Nat.le_of_ble_eq_true rfl) rfl rfl (t_X4_areIn _ K.nt K.ad (sI σ 0 0 (0 : Int32)) a0 a1 v1 h2) (Nat.le_of_ble_eq_true rfl) (by decide) (by decide) dX4_fold_8 ?_
  refine v_if_ne (pc := 11) (tgt := 21) K dX4_fold_11 (by decide) (fun c3 => ?_) (fun c3 => ?_)
  · have h := ie c3 h
    refine v_iload3 (pc := 21) K dX4_fold_21 ?_
    refine v_i2l (pc := 22) K dX4_fold_22 ?_
    refine v_lc0 (pc := 23) K dX4_fold_23 ?_
    refine v_ldc2 (pc := 24) K dX4_fold_24 cl_RX4_85 ?_
    obtain ⟨v4, h5, h⟩ := bd h
    refine v_cS3I (pc := 27)  K ca_yX4_isIn ml_RX4_76 (t_X4_isIn _ K.nt K.ad (sI σ 0 0 (0 : Int32)) ((a2).toInt64) (0 : Int64) (2 : Int64) v4 h5) (Nat.le_of_ble_eq_true rfl) (by decide) (by decide) dX4_fold_27 ?_
    refine v_if_ne (pc := 30) (tgt := 40) K dX4_fold_30 (by decide) (fun c6 => ?_) (fun c6 => ?_)
    · have h := ie c6 h
      refine v_iload3 (pc := 40) K dX4_fold_40 ?_
      obtain ⟨t7, h9, h⟩ := bd h
      have hJ8 : V (mkX M YM E base 9 (.ok (some (.long r.1))) r.2) (sI σ 0 0 (0 : Int32)) 51 [some (.ref (E.2.2 0)), some (.int a0), some (.int a1), some (.int a2), none, none, none, none, none] [.long t7] := by
        refine v_lstore4 (pc := 51) K dX4_fold_51 rfl (Nat.le_of_ble_eq_true rfl) ?_
        refine v_ic0 (pc := 53) K dX4_fold_53 ?_
        refine v_istore6 (pc := 54) K dX4_fold_54 rfl (Nat.le_of_ble_eq_true rfl) ?_
        obtain ⟨r12, h14, h⟩ := bd h
        have hJ13 : V (mkX M YM E base 9 (.ok (some (.long r.1))) r.2) (sI σ 0 0 (0 : Int32)) 130 [none, none, none, none, some (.long r12), none, none, none, none] [] := by
          refine v_lload4 (pc := 130) K dX4_fold_130 ?_
          cases h
          exact v_lret (pc := 132) K dX4_fold_132 rfl rfl
        clear h
        have hL34 := lpv h14 (fun s11 : Int64 × Int32 => V (mkX M YM E base 9 (.ok (some (.long r.1))) r.2) (sI σ 0 0 (0 : Int32)) 56 [some (.ref (E.2.2 0)), some (.int a0), some (.int a1), some (.int a2), some (.long s11.1), none, some (.int s11.2), none, none] [])
        refine hL34 (fun s11 o h hk => ?_)
        refine v_iload6 (pc := 56) K dX4_fold_56 ?_
        refine v_aload0 (pc := 58) K dX4_fold_58 ?_
        refine v_getI (pc := 59) K fl_RX4_80 dX4_fold_59 (Nat.le_of_ble_eq_true rfl) rfl rfl ?_
        refine v_icmp_ge (pc := 62) (tgt := 130) K dX4_fold_62 (by decide) (fun c18 => ?_) (fun c18 => ?_)
        · have h := it c18 h
          have e := lx h hk
          cases e
          exact v_fg [false, false, false, false, true, true, false, true, true] hJ13
        · have h := ie c18 h
          refine v_aload0 (pc := 65) K dX4_fold_65 ?_
          refine v_iload1 (pc := 66) K dX4_fold_66 ?_
          refine v_iload6 (pc := 67) K dX4_fold_67 ?_
          refine v_iload2 (pc := 69) K dX4_fold_69 ?_
          obtain ⟨v19, h20, h⟩ := bd h
          refine v_cV3I (pc := 70)  K ca_yX4_hasUnder ml_RX4_170 (Nat.le_of_ble_eq_true rfl) rfl rfl (t_X4_hasUnder _ K.nt K.ad (sI σ 0 0 (0 : Int32)) a0 s11.2 a1 v19 h20) (Nat.le_of_ble_eq_true rfl) (by decide) (by decide) dX4_fold_70 ?_
          obtain ⟨t21, h23, h⟩ := bd h
          have hJ22 : V (mkX M YM E base 9 (.ok (some (.long r.1))) r.2) (sI σ 0 0 (0 : Int32)) 124 [some (.ref (E.2.2 0)), some (.int a0), some (.int a1), some (.int a2), some (.long t21), none, some (.int s11.2), none, none] [] := by
            refine v_iinc6 (pc := 124) (w := 1) K dX4_fold_124 rfl (Nat.le_of_ble_eq_true rfl) (by decide) ?_
            refine v_goto (pc := 127) (tgt := 56) K dX4_fold_127 (by decide) ?_
            have e := lfc h hk
            exact e
          clear h
          have h := h23
          refine v_if_ne (pc := 73) (tgt := 79) K dX4_fold_73 (by decide) (fun c24 => ?_) (fun c24 => ?_)
          · have h := ie c24 h
            refine v_aload0 (pc := 79) K dX4_fold_79 ?_
            refine v_getR (pc := 80) K fl_RX4_7 dX4_fold_80 (Nat.le_of_ble_eq_true rfl) rfl rfl ?_
            refine v_iload1 (pc := 83) K dX4_fold_83 ?_
            refine v_iload6 (pc := 84) K dX4_fold_84 ?_
            obtain ⟨v25, h26, h⟩ := bd h
            refine v_cS2I (pc := 86)  K ca_yX4_at ml_RX4_94 (t_X4_at _ K.nt K.ad (sI σ 0 0 (0 : Int32)) a0 s11.2 v25 h26) (Nat.le_of_ble_eq_true rfl) (by decide) (by decide) dX4_fold_86 ?_
            obtain ⟨j27, h28, h⟩ := bd h
            refine v_laload (pc := 89) K dX4_fold_89 (Nat.le_of_ble_eq_true rfl) rfl h28 ?_
            refine v_lstore7 (pc := 90) K dX4_fold_90 rfl (Nat.le_of_ble_eq_true rfl) ?_
            refine v_iload3 (pc := 92) K dX4_fold_92 ?_
            obtain ⟨t29, h31, h⟩ := bd h
            have hJ30 : V (mkX M YM E base 9 (.ok (some (.long r.1))) r.2) (sI σ 0 0 (0 : Int32)) 122 [some (.ref (E.2.2 0)), some (.int a0), some (.int a1), some (.int a2), none, none, some (.int s11.2), none, none] [.long t29] := by
              refine v_lstore4 (pc := 122) K dX4_fold_122 rfl (Nat.le_of_ble_eq_true rfl) ?_
              cases h
              exact hJ22
            clear h
            have h := h31
            refine v_if_ne (pc := 93) (tgt := 104) K dX4_fold_93 (by decide) (fun c32 => ?_) (fun c32 => ?_)
            · have h := ie c32 h
              refine v_iload3 (pc := 104) K dX4_fold_104 ?_
              refine v_ic1 (pc := 105) K dX4_fold_105 ?_
              refine v_icmp_ne (pc := 106) (tgt := 117) K dX4_fold_106 (by decide) (fun c33 => ?_) (fun c33 => ?_)
              · have h := ie c33 h
                refine v_lload4 (pc := 117) K dX4_fold_117 ?_
                refine v_lload7 (pc := 119) K dX4_fold_119 ?_
                refine v_lxor (pc := 121) K dX4_fold_121 ?_
                cases h
                exact (v_fg [true, true, true, true, false, true, true, false, true] hJ30)
              · have h := it c33 h
                refine v_lload4 (pc := 109) K dX4_fold_109 ?_
                refine v_lload7 (pc := 111) K dX4_fold_111 ?_
                refine v_lor (pc := 113) K dX4_fold_113 ?_
                refine v_goto (pc := 114) (tgt := 122) K dX4_fold_114 (by decide) ?_
                cases h
                exact (v_fg [true, true, true, true, false, true, true, false, true] hJ30)
            · have h := it c32 h
              refine v_lload4 (pc := 96) K dX4_fold_96 ?_
              refine v_lload7 (pc := 98) K dX4_fold_98 ?_
              refine v_land (pc := 100) K dX4_fold_100 ?_
              refine v_goto (pc := 101) (tgt := 122) K dX4_fold_101 (by decide) ?_
              cases h
              exact (v_fg [true, true, true, true, false, true, true, false, true] hJ30)
          · have h := it c24 h
            refine v_goto (pc := 76) (tgt := 124) K dX4_fold_76 (by decide) ?_
            cases h
            exact hJ22
      clear h
      have h := h9
      refine v_if_ne (pc := 41) (tgt := 50) K dX4_fold_41 (by decide) (fun c10 => ?_) (fun c10 => ?_)
      · have h := ie c10 h
        refine v_lc0 (pc := 50) K dX4_fold_50 ?_
        cases h
        exact hJ8
      · have h := it c10 h
        refine v_ldc2 (pc := 44) K dX4_fold_44 cl_RX4_205 ?_
        refine v_goto (pc := 47) (tgt := 51) K dX4_fold_47 (by decide) ?_
        cases h
        exact hJ8
    · have h := it c6 h
      refine v_aload0 (pc := 33) K dX4_fold_33 ?_
      refine v_ic2 (pc := 34) K dX4_fold_34 ?_
      obtain ⟨v35, h36, h⟩ := bd h
      refine v_cV1I (pc := 35)  K ca_yX4_fails ml_RX4_105 (Nat.le_of_ble_eq_true rfl) rfl rfl (t_X4_fails _ K.nt K.ad (sI σ 0 0 (0 : Int32)) (2 : Int32) v35 h36) (Nat.le_of_ble_eq_true rfl) (by decide) (by decide) dX4_fold_35 ?_
      refine v_i2l (pc := 38) K dX4_fold_38 ?_
      cases h
      exact v_lret (pc := 39) K dX4_fold_39 rfl rfl
  · have h := it c3 h
    refine v_aload0 (pc := 14) K dX4_fold_14 ?_
    refine v_ic1 (pc := 15) K dX4_fold_15 ?_
    obtain ⟨v37, h38, h⟩ := bd h
    refine v_cV1I (pc := 16)  K ca_yX4_fails ml_RX4_105 (Nat.le_of_ble_eq_true rfl) rfl rfl (t_X4_fails _ K.nt K.ad (sI σ 0 0 (0 : Int32)) (1 : Int32) v37 h38) (Nat.le_of_ble_eq_true rfl) (by decide) (by decide) dX4_fold_16 ?_
    refine v_i2l (pc := 19) K dX4_fold_19 ?_
    cases h
    exact v_lret (pc := 20) K dX4_fold_20 rfl rfl
set_option maxRecDepth 100000 in
def m_X4_spread (σ : St) (a0 : Int32) (a1 : Int32) : Option (Int64 × St) :=
  ((m_X4_areIn (sI σ 0 0 (0 : Int32)) a0 a1).bind fun v1 => (if v1 = 0 then ((m_X4_fails (sI σ 0 0 (0 : Int32)) (1 : Int32)).bind fun v40 => some ((v40.1).toInt64, v40.2)) else ((m_X4_lists (sI σ 0 0 (0 : Int32)) a0 a1).bind fun v4 => ((m_X4_noSum v4).bind fun v6 => ((lp 5000 (fun (s8 : Int32 × St) => (if s8.2.1 0 10 ≤ s8.1 then some (.inr s8.2) else ((lp 5000 (fun (s16 : Int32 × St) => (if s8.1 ≤ s16.1 then some (.inr s16.2) else ((ix s8.1 192).bind fun j24 => ((ix s16.1 192).bind fun j26 => ((ix s8.1 192).bind fun j28 => ((ix s16.1 192).bind fun j30 => ((m_X4_adds s16.2 (s16.2.2 6 j24 - s16.2.2 6 j26) (s16.2.2 6 j28 - s16.2.2 6 j30)).bind fun v32 => some (.inl ((s16.1 + 1), v32))))))))) ((0 : Int32), s8.2)).bind fun (r17 : St) => ((m_X4_carries r17).bind fun v34 => some (.inl ((s8.1 + 1), v34)))))) ((0 : Int32), v6)).bind fun (r9 : St) => ((m_X4_sumOr r9 (2 : Int32)).bind fun v37 => some (v37.1, v37.2)))))))
set_option maxHeartbeats 4000000 in
set_option maxRecDepth 100000 in
theorem t_X4_spread (l : Launch) (hnt : l.stackTraces = false) {E : Ev} {base : Nat} (hE : Adr YM E base) (σ : St) (a0 : Int32) (a1 : Int32) (r : Int64 × St) (h : m_X4_spread σ a0 a1 = some r) : Ctr l yX4_spread cX4_spread 5 (some .long) 3 70 YM E base [.ref (E.2.2 0), .int a0, .int a1] σ (.ok (some (.long r.1))) r.2 := by
  unfold m_X4_spread at h
  refine ofV 2 (by decide +kernel) rfl hE hnt (Nat.le_of_ble_eq_true rfl) rfl (fun M hN K => ?_)
  refine v_aload0 (pc := 0) K dX4_spread_0 ?_
  refine v_ic0 (pc := 1) K dX4_spread_1 ?_
  refine v_put (pc := 2) K fw_RX4_69 dX4_spread_2 rfl rfl (Nat.le_of_ble_eq_true rfl) rfl rfl ?_
  refine v_aload0 (pc := 5) K dX4_spread_5 ?_
  refine v_iload1 (pc := 6) K dX4_spread_6 ?_
  refine v_iload2 (pc := 7) K dX4_spread_7 ?_
  obtain ⟨v1, h2, h⟩ := bd h
  refine v_cV2I (pc := 8)  K ca_yX4_areIn ml_RX4_164 (Nat.le_of_ble_eq_true rfl) rfl rfl (t_X4_areIn _ K.nt K.ad (sI σ 0 0 (0 : Int32)) a0 a1 v1 h2) (Nat.le_of_ble_eq_true rfl) (by decide) (by decide) dX4_spread_8 ?_
  refine v_if_ne (pc := 11) (tgt := 21) K dX4_spread_11 (by decide) (fun c3 => ?_) (fun c3 => ?_)
  · have h := ie c3 h
    refine v_aload0 (pc := 21) K dX4_spread_21 ?_
    refine v_iload1 (pc := 22) K dX4_spread_22 ?_
    refine v_iload2 (pc := 23) K dX4_spread_23 ?_
    obtain ⟨v4, h5, h⟩ := bd h
    refine v_cV2U (pc := 24)  K ca_yX4_lists ml_RX4_199 (Nat.le_of_ble_eq_true rfl) rfl rfl (t_X4_lists _ K.nt K.ad (sI σ 0 0 (0 : Int32)) a0 a1 v4 h5) (Nat.le_of_ble_eq_true rfl) (by decide) (by decide) dX4_spread_24 ?_
    refine v_aload0 (pc := 27) K dX4_spread_27 ?_
    obtain ⟨v6, h7, h⟩ := bd h
    refine v_cV0U (pc := 28)  K ca_yX4_noSum ml_RX4_222 (Nat.le_of_ble_eq_true rfl) rfl rfl (t_X4_noSum _ K.nt K.ad v4 v6 h7) (Nat.le_of_ble_eq_true rfl) (by decide) (by decide) dX4_spread_28 ?_
    refine v_ic0 (pc := 31) K dX4_spread_31 ?_
    refine v_istore3 (pc := 32) K dX4_spread_32 rfl (Nat.le_of_ble_eq_true rfl) ?_
    obtain ⟨r9, h11, h⟩ := bd h
    have hJ10 : V (mkX M YM E base 5 (.ok (some (.long r.1))) r.2) r9 98 [some (.ref (E.2.2 0)), none, none, none, none] [] := by
      refine v_aload0 (pc := 98) K dX4_spread_98 ?_
      refine v_ic2 (pc := 99) K dX4_spread_99 ?_
      obtain ⟨v37, h38, h⟩ := bd h
      refine v_cV1L (pc := 100)  K ca_yX4_sumOr ml_RX4_229 (Nat.le_of_ble_eq_true rfl) rfl rfl (t_X4_sumOr _ K.nt K.ad r9 (2 : Int32) v37 h38) (Nat.le_of_ble_eq_true rfl) (by decide) (by decide) dX4_spread_100 ?_
      cases h
      exact v_lret (pc := 103) K dX4_spread_103 rfl rfl
    clear h
    refine v_fg [true, false, false, true, true] ?_
    have hL39 := lpv h11 (fun s8 : Int32 × St => V (mkX M YM E base 5 (.ok (some (.long r.1))) r.2) s8.2 33 [some (.ref (E.2.2 0)), none, none, some (.int s8.1), none] [])
    refine hL39 (fun s8 o h hk => ?_)
    refine v_iload3 (pc := 33) K dX4_spread_33 ?_
    refine v_aload0 (pc := 34) K dX4_spread_34 ?_
    refine v_getI (pc := 35) K fl_RX4_196 dX4_spread_35 (Nat.le_of_ble_eq_true rfl) rfl rfl ?_
    refine v_icmp_ge (pc := 38) (tgt := 98) K dX4_spread_38 (by decide) (fun c15 => ?_) (fun c15 => ?_)
    · have h := it c15 h
      have e := lx h hk
      cases e
      exact v_fg [true, true, true, false, true] hJ10
    · have h := ie c15 h
      refine v_ic0 (pc := 41) K dX4_spread_41 ?_
      refine v_istore4 (pc := 42) K dX4_spread_42 rfl (Nat.le_of_ble_eq_true rfl) ?_
      obtain ⟨r17, h19, h⟩ := bd h
      have hJ18 : V (mkX M YM E base 5 (.ok (some (.long r.1))) r.2) r17 88 [some (.ref (E.2.2 0)), none, none, some (.int s8.1), none] [] := by
        refine v_aload0 (pc := 88) K dX4_spread_88 ?_
        obtain ⟨v34, h35, h⟩ := bd h
        refine v_cV0U (pc := 89)  K ca_yX4_carries ml_RX4_215 (Nat.le_of_ble_eq_true rfl) rfl rfl (t_X4_carries _ K.nt K.ad r17 v34 h35) (Nat.le_of_ble_eq_true rfl) (by decide) (by decide) dX4_spread_89 ?_
        refine v_iinc3 (pc := 92) (w := 1) K dX4_spread_92 rfl (Nat.le_of_ble_eq_true rfl) (by decide) ?_
        refine v_goto (pc := 95) (tgt := 33) K dX4_spread_95 (by decide) ?_
        have e := lfc h hk
        exact e
      clear h
      have hL36 := lpv h19 (fun s16 : Int32 × St => V (mkX M YM E base 5 (.ok (some (.long r.1))) r.2) s16.2 44 [some (.ref (E.2.2 0)), none, none, some (.int s8.1), some (.int s16.1)] [])
      refine hL36 (fun s16 o h hk => ?_)
      refine v_iload4 (pc := 44) K dX4_spread_44 ?_
      refine v_iload3 (pc := 46) K dX4_spread_46 ?_
      refine v_icmp_ge (pc := 47) (tgt := 88) K dX4_spread_47 (by decide) (fun c23 => ?_) (fun c23 => ?_)
      · have h := it c23 h
        have e := lx h hk
        cases e
        exact v_fg [true, true, true, true, false] hJ18
      · have h := ie c23 h
        refine v_aload0 (pc := 50) K dX4_spread_50 ?_
        refine v_aload0 (pc := 51) K dX4_spread_51 ?_
        refine v_getR (pc := 52) K fl_RX4_27 dX4_spread_52 (Nat.le_of_ble_eq_true rfl) rfl rfl ?_
        refine v_iload3 (pc := 55) K dX4_spread_55 ?_
        obtain ⟨j24, h25, h⟩ := bd h
        refine v_laload (pc := 56) K dX4_spread_56 (Nat.le_of_ble_eq_true rfl) rfl h25 ?_
        refine v_aload0 (pc := 57) K dX4_spread_57 ?_
        refine v_getR (pc := 58) K fl_RX4_27 dX4_spread_58 (Nat.le_of_ble_eq_true rfl) rfl rfl ?_
        refine v_iload4 (pc := 61) K dX4_spread_61 ?_
        obtain ⟨j26, h27, h⟩ := bd h
        refine v_laload (pc := 63) K dX4_spread_63 (Nat.le_of_ble_eq_true rfl) rfl h27 ?_
        refine v_lsub (pc := 64) K dX4_spread_64 ?_
        refine v_aload0 (pc := 65) K dX4_spread_65 ?_
        refine v_getR (pc := 66) K fl_RX4_27 dX4_spread_66 (Nat.le_of_ble_eq_true rfl) rfl rfl ?_
        refine v_iload3 (pc := 69) K dX4_spread_69 ?_
        obtain ⟨j28, h29, h⟩ := bd h
        refine v_laload (pc := 70) K dX4_spread_70 (Nat.le_of_ble_eq_true rfl) rfl h29 ?_
        refine v_aload0 (pc := 71) K dX4_spread_71 ?_
        refine v_getR (pc := 72) K fl_RX4_27 dX4_spread_72 (Nat.le_of_ble_eq_true rfl) rfl rfl ?_
        refine v_iload4 (pc := 75) K dX4_spread_75 ?_
        obtain ⟨j30, h31, h⟩ := bd h
        refine v_laload (pc := 77) K dX4_spread_77 (Nat.le_of_ble_eq_true rfl) rfl h31 ?_
        refine v_lsub (pc := 78) K dX4_spread_78 ?_
        obtain ⟨v32, h33, h⟩ := bd h
        refine v_cV2U (pc := 79)  K ca_yX4_adds ml_RX4_225 (Nat.le_of_ble_eq_true rfl) rfl rfl (t_X4_adds _ K.nt K.ad s16.2 (s16.2.2 6 j24 - s16.2.2 6 j26) (s16.2.2 6 j28 - s16.2.2 6 j30) v32 h33) (Nat.le_of_ble_eq_true rfl) (by decide) (by decide) dX4_spread_79 ?_
        refine v_iinc4 (pc := 82) (w := 1) K dX4_spread_82 rfl (Nat.le_of_ble_eq_true rfl) (by decide) ?_
        refine v_goto (pc := 85) (tgt := 44) K dX4_spread_85 (by decide) ?_
        have e := lfc h hk
        exact e
  · have h := it c3 h
    refine v_aload0 (pc := 14) K dX4_spread_14 ?_
    refine v_ic1 (pc := 15) K dX4_spread_15 ?_
    obtain ⟨v40, h41, h⟩ := bd h
    refine v_cV1I (pc := 16)  K ca_yX4_fails ml_RX4_105 (Nat.le_of_ble_eq_true rfl) rfl rfl (t_X4_fails _ K.nt K.ad (sI σ 0 0 (0 : Int32)) (1 : Int32) v40 h41) (Nat.le_of_ble_eq_true rfl) (by decide) (by decide) dX4_spread_16 ?_
    refine v_i2l (pc := 19) K dX4_spread_19 ?_
    cases h
    exact v_lret (pc := 20) K dX4_spread_20 rfl rfl
set_option maxRecDepth 100000 in
def m_X4_isLessBare (σ : St) (a0 : Int64) (a1 : Int64) : Option (Int32) :=
  ((if (a1 + ((-9223372036854775808) : Int64)) ≤ (a0 + ((-9223372036854775808) : Int64)) then some (0 : Int32) else some (1 : Int32)).bind fun (t1 : Int32) => some (nz t1))
set_option maxHeartbeats 4000000 in
set_option maxRecDepth 100000 in
theorem t_X4_isLessBare (l : Launch) (hnt : l.stackTraces = false) {E : Ev} {base : Nat} (hE : Adr YM E base) (σ : St) (a0 : Int64) (a1 : Int64) (r : Int32) (h : m_X4_isLessBare σ a0 a1 = some r) : Ctr l yX4_isLessBare cX4_isLessBare 4 (some .boolean) 0 0 YM E base [.long a0, .long a1] σ (.ok (some (.int r))) σ := by
  unfold m_X4_isLessBare at h
  refine ofV 0 (by decide +kernel) rfl hE hnt (Nat.le_of_ble_eq_true rfl) rfl (fun M hN K => ?_)
  refine v_lload0 (pc := 0) K dX4_isLessBare_0 ?_
  refine v_ldc2 (pc := 1) K dX4_isLessBare_1 cl_RX4_127 ?_
  refine v_ladd (pc := 4) K dX4_isLessBare_4 ?_
  refine v_lload2 (pc := 5) K dX4_isLessBare_5 ?_
  refine v_ldc2 (pc := 6) K dX4_isLessBare_6 cl_RX4_127 ?_
  refine v_ladd (pc := 9) K dX4_isLessBare_9 ?_
  obtain ⟨t1, h3, h⟩ := bd h
  have hJ2 : V (mkX M YM E base 4 (.ok (some (.int r))) σ) σ 19 [none, none, none, none] [.int t1] := by
    cases h
    exact v_zret (pc := 19) K dX4_isLessBare_19 rfl rfl
  clear h
  have h := h3
  refine v_lc_ge (pc := 10) (tgt := 18) K dX4_isLessBare_10 dX4_isLessBare_11 (by decide) (fun c4 => ?_) (fun c4 => ?_)
  · have h := it c4 h
    refine v_ic0 (pc := 18) K dX4_isLessBare_18 ?_
    cases h
    exact (v_fg [false, true, false, true] hJ2)
  · have h := ie c4 h
    refine v_ic1 (pc := 14) K dX4_isLessBare_14 ?_
    refine v_goto (pc := 15) (tgt := 19) K dX4_isLessBare_15 (by decide) ?_
    cases h
    exact (v_fg [false, true, false, true] hJ2)
set_option maxRecDepth 100000 in
def m_X4_nearest (σ : St) (a0 : Int32) (a1 : Int32) (a2 : Int64) : Option (Int64 × St) :=
  ((m_X4_areIn (sI σ 0 0 (0 : Int32)) a0 a1).bind fun v1 => (if v1 = 0 then ((m_X4_fails (sI σ 0 0 (0 : Int32)) (1 : Int32)).bind fun v36 => some ((v36.1).toInt64, v36.2)) else ((m_X4_lists (sI σ 0 0 (0 : Int32)) a0 a1).bind fun v4 => ((lp 5000 (fun (s6 : Int64 × Int64 × Int32) => (if v4.1 0 10 ≤ s6.2.2 then some (.inr s6.1) else ((ix s6.2.2 192).bind fun j14 => ((if a2 ≤ v4.2 6 j14 then ((ix s6.2.2 192).bind fun j20 => some (v4.2 6 j20 - a2)) else ((ix s6.2.2 192).bind fun j22 => some (a2 - v4.2 6 j22))).bind fun (t16 : Int64) => ((if s6.2.2 ≤ 0 then ((ix s6.2.2 192).bind fun j28 => some (v4.2 6 j28, t16)) else ((m_X4_isLessBare v4 t16 s6.2.1).bind fun v30 => (if v30 = 0 then some (s6.1, s6.2.1) else ((ix s6.2.2 192).bind fun j33 => some (v4.2 6 j33, t16))))).bind fun (t24 : Int64 × Int64) => some (.inl (t24.1, t24.2, (s6.2.2 + 1)))))))) (((-9223372036854775808) : Int64), (0 : Int64), (0 : Int32))).bind fun (r7 : Int64) => some (r7, v4)))))
set_option maxHeartbeats 4000000 in
set_option maxRecDepth 100000 in
theorem t_X4_nearest (l : Launch) (hnt : l.stackTraces = false) {E : Ev} {base : Nat} (hE : Adr YM E base) (σ : St) (a0 : Int32) (a1 : Int32) (a2 : Int64) (r : Int64 × St) (h : m_X4_nearest σ a0 a1 a2 = some r) : Ctr l yX4_nearest cX4_nearest 12 (some .long) 3 70 YM E base [.ref (E.2.2 0), .int a0, .int a1, .long a2] σ (.ok (some (.long r.1))) r.2 := by
  unfold m_X4_nearest at h
  refine ofV 7 (by decide +kernel) rfl hE hnt (Nat.le_of_ble_eq_true rfl) rfl (fun M hN K => ?_)
  refine v_aload0 (pc := 0) K dX4_nearest_0 ?_
  refine v_ic0 (pc := 1) K dX4_nearest_1 ?_
  refine v_put (pc := 2) K fw_RX4_69 dX4_nearest_2 rfl rfl (Nat.le_of_ble_eq_true rfl) rfl rfl ?_
  refine v_aload0 (pc := 5) K dX4_nearest_5 ?_
  refine v_iload1 (pc := 6) K dX4_nearest_6 ?_
  refine v_iload2 (pc := 7) K dX4_nearest_7 ?_
  obtain ⟨v1, h2, h⟩ := bd h
  refine v_cV2I (pc := 8)  K ca_yX4_areIn ml_RX4_164 (Nat.le_of_ble_eq_true rfl) rfl rfl (t_X4_areIn _ K.nt K.ad (sI σ 0 0 (0 : Int32)) a0 a1 v1 h2) (Nat.le_of_ble_eq_true rfl) (by decide) (by decide) dX4_nearest_8 ?_
  refine v_if_ne (pc := 11) (tgt := 21) K dX4_nearest_11 (by decide) (fun c3 => ?_) (fun c3 => ?_)
  · have h := ie c3 h
    refine v_aload0 (pc := 21) K dX4_nearest_21 ?_
    refine v_iload1 (pc := 22) K dX4_nearest_22 ?_
    refine v_iload2 (pc := 23) K dX4_nearest_23 ?_
    obtain ⟨v4, h5, h⟩ := bd h
    refine v_cV2U (pc := 24)  K ca_yX4_lists ml_RX4_199 (Nat.le_of_ble_eq_true rfl) rfl rfl (t_X4_lists _ K.nt K.ad (sI σ 0 0 (0 : Int32)) a0 a1 v4 h5) (Nat.le_of_ble_eq_true rfl) (by decide) (by decide) dX4_nearest_24 ?_
    refine v_ldc2 (pc := 27) K dX4_nearest_27 cl_RX4_127 ?_
    refine v_lstore5 (pc := 30) K dX4_nearest_30 rfl (Nat.le_of_ble_eq_true rfl) ?_
    refine v_lc0 (pc := 32) K dX4_nearest_32 ?_
    refine v_lstore7 (pc := 33) K dX4_nearest_33 rfl (Nat.le_of_ble_eq_true rfl) ?_
    refine v_ic0 (pc := 35) K dX4_nearest_35 ?_
    refine v_istore9 (pc := 36) K dX4_nearest_36 rfl (Nat.le_of_ble_eq_true rfl) ?_
    obtain ⟨r7, h9, h⟩ := bd h
    have hJ8 : V (mkX M YM E base 12 (.ok (some (.long r.1))) r.2) v4 119 [none, none, none, none, none, some (.long r7), none, none, none, none, none, none] [] := by
      refine v_lload5 (pc := 119) K dX4_nearest_119 ?_
      cases h
      exact v_lret (pc := 121) K dX4_nearest_121 rfl rfl
    clear h
    refine v_fg [true, false, false, true, true, true, true, true, true, true, true, true] ?_
    have hL35 := lpv h9 (fun s6 : Int64 × Int64 × Int32 => V (mkX M YM E base 12 (.ok (some (.long r.1))) r.2) v4 38 [some (.ref (E.2.2 0)), none, none, some (.long a2), none, some (.long s6.1), none, some (.long s6.2.1), none, some (.int s6.2.2), none, none] [])
    refine hL35 (fun s6 o h hk => ?_)
    refine v_iload9 (pc := 38) K dX4_nearest_38 ?_
    refine v_aload0 (pc := 40) K dX4_nearest_40 ?_
    refine v_getI (pc := 41) K fl_RX4_196 dX4_nearest_41 (Nat.le_of_ble_eq_true rfl) rfl rfl ?_
    refine v_icmp_ge (pc := 44) (tgt := 119) K dX4_nearest_44 (by decide) (fun c13 => ?_) (fun c13 => ?_)
    · have h := it c13 h
      have e := lx h hk
      cases e
      exact v_fg [false, true, true, false, true, true, true, false, true, false, true, true] hJ8
    · have h := ie c13 h
      refine v_aload0 (pc := 47) K dX4_nearest_47 ?_
      refine v_getR (pc := 48) K fl_RX4_27 dX4_nearest_48 (Nat.le_of_ble_eq_true rfl) rfl rfl ?_
      refine v_iload9 (pc := 51) K dX4_nearest_51 ?_
      obtain ⟨j14, h15, h⟩ := bd h
      refine v_laload (pc := 53) K dX4_nearest_53 (Nat.le_of_ble_eq_true rfl) rfl h15 ?_
      refine v_lload3 (pc := 54) K dX4_nearest_54 ?_
      obtain ⟨t16, h18, h⟩ := bd h
      have hJ17 : V (mkX M YM E base 12 (.ok (some (.long r.1))) r.2) v4 80 [some (.ref (E.2.2 0)), none, none, some (.long a2), none, some (.long s6.1), none, some (.long s6.2.1), none, some (.int s6.2.2), none, none] [.long t16] := by
        refine v_lstore10 (pc := 80) K dX4_nearest_80 rfl (Nat.le_of_ble_eq_true rfl) ?_
        refine v_iload9 (pc := 82) K dX4_nearest_82 ?_
        obtain ⟨t24, h26, h⟩ := bd h
        have hJ25 : V (mkX M YM E base 12 (.ok (some (.long r.1))) r.2) v4 113 [some (.ref (E.2.2 0)), none, none, some (.long a2), none, some (.long t24.1), none, some (.long t24.2), none, some (.int s6.2.2), none, none] [] := by
          refine v_iinc9 (pc := 113) (w := 1) K dX4_nearest_113 rfl (Nat.le_of_ble_eq_true rfl) (by decide) ?_
          refine v_goto (pc := 116) (tgt := 38) K dX4_nearest_116 (by decide) ?_
          have e := lfc h hk
          exact e
        clear h
        have h := h26
        refine v_if_le (pc := 84) (tgt := 100) K dX4_nearest_84 (by decide) (fun c27 => ?_) (fun c27 => ?_)
        · have h := it c27 h
          refine v_aload0 (pc := 100) K dX4_nearest_100 ?_
          refine v_getR (pc := 101) K fl_RX4_27 dX4_nearest_101 (Nat.le_of_ble_eq_true rfl) rfl rfl ?_
          refine v_iload9 (pc := 104) K dX4_nearest_104 ?_
          obtain ⟨j28, h29, h⟩ := bd h
          refine v_laload (pc := 106) K dX4_nearest_106 (Nat.le_of_ble_eq_true rfl) rfl h29 ?_
          refine v_lstore5 (pc := 107) K dX4_nearest_107 rfl (Nat.le_of_ble_eq_true rfl) ?_
          refine v_lload10 (pc := 109) K dX4_nearest_109 ?_
          refine v_lstore7 (pc := 111) K dX4_nearest_111 rfl (Nat.le_of_ble_eq_true rfl) ?_
          cases h
          exact (v_fg [true, true, true, true, true, true, true, true, true, true, false, true] hJ25)
        · have h := ie c27 h
          refine v_lload10 (pc := 87) K dX4_nearest_87 ?_
          refine v_lload7 (pc := 89) K dX4_nearest_89 ?_
          obtain ⟨v30, h31, h⟩ := bd h
          refine v_cS2I (pc := 91)  K ca_yX4_isLessBare ml_RX4_242 (t_X4_isLessBare _ K.nt K.ad v4 t16 s6.2.1 v30 h31) (Nat.le_of_ble_eq_true rfl) (by decide) (by decide) dX4_nearest_91 ?_
          refine v_if_ne (pc := 94) (tgt := 100) K dX4_nearest_94 (by decide) (fun c32 => ?_) (fun c32 => ?_)
          · have h := ie c32 h
            refine v_aload0 (pc := 100) K dX4_nearest_100 ?_
            refine v_getR (pc := 101) K fl_RX4_27 dX4_nearest_101 (Nat.le_of_ble_eq_true rfl) rfl rfl ?_
            refine v_iload9 (pc := 104) K dX4_nearest_104 ?_
            obtain ⟨j33, h34, h⟩ := bd h
            refine v_laload (pc := 106) K dX4_nearest_106 (Nat.le_of_ble_eq_true rfl) rfl h34 ?_
            refine v_lstore5 (pc := 107) K dX4_nearest_107 rfl (Nat.le_of_ble_eq_true rfl) ?_
            refine v_lload10 (pc := 109) K dX4_nearest_109 ?_
            refine v_lstore7 (pc := 111) K dX4_nearest_111 rfl (Nat.le_of_ble_eq_true rfl) ?_
            cases h
            exact (v_fg [true, true, true, true, true, true, true, true, true, true, false, true] hJ25)
          · have h := it c32 h
            refine v_goto (pc := 97) (tgt := 113) K dX4_nearest_97 (by decide) ?_
            cases h
            exact (v_fg [true, true, true, true, true, true, true, true, true, true, false, true] hJ25)
      clear h
      have h := h18
      refine v_lc_ge (pc := 55) (tgt := 71) K dX4_nearest_55 dX4_nearest_56 (by decide) (fun c19 => ?_) (fun c19 => ?_)
      · have h := it c19 h
        refine v_aload0 (pc := 71) K dX4_nearest_71 ?_
        refine v_getR (pc := 72) K fl_RX4_27 dX4_nearest_72 (Nat.le_of_ble_eq_true rfl) rfl rfl ?_
        refine v_iload9 (pc := 75) K dX4_nearest_75 ?_
        obtain ⟨j20, h21, h⟩ := bd h
        refine v_laload (pc := 77) K dX4_nearest_77 (Nat.le_of_ble_eq_true rfl) rfl h21 ?_
        refine v_lload3 (pc := 78) K dX4_nearest_78 ?_
        refine v_lsub (pc := 79) K dX4_nearest_79 ?_
        cases h
        exact hJ17
      · have h := ie c19 h
        refine v_lload3 (pc := 59) K dX4_nearest_59 ?_
        refine v_aload0 (pc := 60) K dX4_nearest_60 ?_
        refine v_getR (pc := 61) K fl_RX4_27 dX4_nearest_61 (Nat.le_of_ble_eq_true rfl) rfl rfl ?_
        refine v_iload9 (pc := 64) K dX4_nearest_64 ?_
        obtain ⟨j22, h23, h⟩ := bd h
        refine v_laload (pc := 66) K dX4_nearest_66 (Nat.le_of_ble_eq_true rfl) rfl h23 ?_
        refine v_lsub (pc := 67) K dX4_nearest_67 ?_
        refine v_goto (pc := 68) (tgt := 80) K dX4_nearest_68 (by decide) ?_
        cases h
        exact hJ17
  · have h := it c3 h
    refine v_aload0 (pc := 14) K dX4_nearest_14 ?_
    refine v_ic1 (pc := 15) K dX4_nearest_15 ?_
    obtain ⟨v36, h37, h⟩ := bd h
    refine v_cV1I (pc := 16)  K ca_yX4_fails ml_RX4_105 (Nat.le_of_ble_eq_true rfl) rfl rfl (t_X4_fails _ K.nt K.ad (sI σ 0 0 (0 : Int32)) (1 : Int32) v36 h37) (Nat.le_of_ble_eq_true rfl) (by decide) (by decide) dX4_nearest_16 ?_
    refine v_i2l (pc := 19) K dX4_nearest_19 ?_
    cases h
    exact v_lret (pc := 20) K dX4_nearest_20 rfl rfl
set_option maxRecDepth 100000 in
def m_X4_goesInto (σ : St) (a0 : Int64) (a1 : Int64) : Option (Int64) :=
  (if a1 < (0 : Int64) then (if a0 = 0 then none else ((m_X4_isLessBare σ (a1 - (((((a1).toUInt64 >>> (((1 : Int32)).toInt64.toUInt64 &&& Int64.toUInt64 63)).toInt64 / a0) <<< (((1 : Int32)).toInt64 &&& 63)) * a0)) a0).bind fun v3 => ((if v3 = 0 then some (((((a1).toUInt64 >>> (((1 : Int32)).toInt64.toUInt64 &&& Int64.toUInt64 63)).toInt64 / a0) <<< (((1 : Int32)).toInt64 &&& 63)) + (1 : Int64)) else some ((((a1).toUInt64 >>> (((1 : Int32)).toInt64.toUInt64 &&& Int64.toUInt64 63)).toInt64 / a0) <<< (((1 : Int32)).toInt64 &&& 63))).bind fun (t5 : Int64) => some t5))) else (if a0 = 0 then none else some (a1 / a0)))
set_option maxHeartbeats 4000000 in
set_option maxRecDepth 100000 in
theorem t_X4_goesInto (l : Launch) (hnt : l.stackTraces = false) {E : Ev} {base : Nat} (hE : Adr YM E base) (σ : St) (a0 : Int64) (a1 : Int64) (r : Int64) (h : m_X4_goesInto σ a0 a1 = some r) : Ctr l yX4_goesInto cX4_goesInto 6 (some .long) 1 23 YM E base [.long a0, .long a1] σ (.ok (some (.long r))) σ := by
  unfold m_X4_goesInto at h
  refine ofV 2 (by decide +kernel) rfl hE hnt (Nat.le_of_ble_eq_true rfl) rfl (fun M hN K => ?_)
  refine v_lload2 (pc := 0) K dX4_goesInto_0 ?_
  refine v_lc0 (pc := 1) K dX4_goesInto_1 ?_
  refine v_lc_lt (pc := 2) (tgt := 10) K dX4_goesInto_2 dX4_goesInto_3 (by decide) (fun c1 => ?_) (fun c1 => ?_)
  · have h := it c1 h
    refine v_lload2 (pc := 10) K dX4_goesInto_10 ?_
    refine v_ic1 (pc := 11) K dX4_goesInto_11 ?_
    refine v_lushr (pc := 12) K dX4_goesInto_12 ?_
    refine v_lload0 (pc := 13) K dX4_goesInto_13 ?_
    by_cases c2 : a0 = 0
    · cases (it c2 h)
    have h := ie c2 h
    refine v_ldiv (pc := 14) K dX4_goesInto_14 c2 ?_
    refine v_ic1 (pc := 15) K dX4_goesInto_15 ?_
    refine v_lshl (pc := 16) K dX4_goesInto_16 ?_
    refine v_lstore4 (pc := 17) K dX4_goesInto_17 rfl (Nat.le_of_ble_eq_true rfl) ?_
    refine v_lload2 (pc := 19) K dX4_goesInto_19 ?_
    refine v_lload4 (pc := 20) K dX4_goesInto_20 ?_
    refine v_lload0 (pc := 22) K dX4_goesInto_22 ?_
    refine v_lmul (pc := 23) K dX4_goesInto_23 ?_
    refine v_lsub (pc := 24) K dX4_goesInto_24 ?_
    refine v_lload0 (pc := 25) K dX4_goesInto_25 ?_
    obtain ⟨v3, h4, h⟩ := bd h
    refine v_cS2I (pc := 26)  K ca_yX4_isLessBare ml_RX4_242 (t_X4_isLessBare _ K.nt K.ad σ (a1 - (((((a1).toUInt64 >>> (((1 : Int32)).toInt64.toUInt64 &&& Int64.toUInt64 63)).toInt64 / a0) <<< (((1 : Int32)).toInt64 &&& 63)) * a0)) a0 v3 h4) (Nat.le_of_ble_eq_true rfl) (by decide) (by decide) dX4_goesInto_26 ?_
    obtain ⟨t5, h7, h⟩ := bd h
    have hJ6 : V (mkX M YM E base 6 (.ok (some (.long r))) σ) σ 41 [none, none, none, none, none, none] [.long t5] := by
      cases h
      exact v_lret (pc := 41) K dX4_goesInto_41 rfl rfl
    clear h
    have h := h7
    refine v_if_eq (pc := 29) (tgt := 37) K dX4_goesInto_29 (by decide) (fun c8 => ?_) (fun c8 => ?_)
    · have h := it c8 h
      refine v_lload4 (pc := 37) K dX4_goesInto_37 ?_
      refine v_lc1 (pc := 39) K dX4_goesInto_39 ?_
      refine v_ladd (pc := 40) K dX4_goesInto_40 ?_
      cases h
      exact (v_fg [false, true, false, true, false, true] hJ6)
    · have h := ie c8 h
      refine v_lload4 (pc := 32) K dX4_goesInto_32 ?_
      refine v_goto (pc := 34) (tgt := 41) K dX4_goesInto_34 (by decide) ?_
      cases h
      exact (v_fg [false, true, false, true, false, true] hJ6)
  · have h := ie c1 h
    refine v_lload2 (pc := 6) K dX4_goesInto_6 ?_
    refine v_lload0 (pc := 7) K dX4_goesInto_7 ?_
    by_cases c9 : a0 = 0
    · cases (it c9 h)
    have h := ie c9 h
    refine v_ldiv (pc := 8) K dX4_goesInto_8 c9 ?_
    cases h
    exact v_lret (pc := 9) K dX4_goesInto_9 rfl rfl
set_option maxRecDepth 100000 in
def m_X4_box (σ : St) (a0 : Int32) (a1 : Int32) (a2 : Int64) (a3 : Int64) (a4 : Int32) : Option (Int32 × St) :=
  ((m_X4_areIn (sI σ 0 0 (0 : Int32)) a0 a1).bind fun v1 => (if v1 = 0 then ((m_X4_fails (sI σ 0 0 (0 : Int32)) (1 : Int32)).bind fun v34 => some (v34.1, v34.2)) else (if a3 < (1 : Int64) then ((m_X4_fails (sI σ 0 0 (0 : Int32)) (2 : Int32)).bind fun v5 => some (v5.1, v5.2)) else (if 0 ≤ a4 then ((m_X4_lists (sI σ 0 0 (0 : Int32)) a0 a1).bind fun v8 => ((lp 5000 (fun (s10 : Int32 × Int32) => (if v8.1 0 10 ≤ s10.2 then some (.inr s10.1) else ((ix s10.2 192).bind fun j18 => ((if v8.2 6 j18 < a2 then some (0 : Int32) else ((ix s10.2 192).bind fun j24 => ((m_X4_goesInto v8 a3 (v8.2 6 j24 - a2)).bind fun v26 => (if v26 = (a4).toInt64 then some (1 : Int32) else some (0 : Int32))))).bind fun (t20 : Int32) => ((m_X4_flag v8 t20).bind fun v29 => some (.inl ((s10.1 + v29), (s10.2 + 1)))))))) ((0 : Int32), (0 : Int32))).bind fun (r11 : Int32) => some (r11, v8))) else ((m_X4_fails (sI σ 0 0 (0 : Int32)) (2 : Int32)).bind fun v32 => some (v32.1, v32.2))))))
set_option maxHeartbeats 4000000 in
set_option maxRecDepth 100000 in
theorem t_X4_box (l : Launch) (hnt : l.stackTraces = false) {E : Ev} {base : Nat} (hE : Adr YM E base) (σ : St) (a0 : Int32) (a1 : Int32) (a2 : Int64) (a3 : Int64) (a4 : Int32) (r : Int32 × St) (h : m_X4_box σ a0 a1 a2 a3 a4 = some r) : Ctr l yX4_box cX4_box 10 (some .int) 3 70 YM E base [.ref (E.2.2 0), .int a0, .int a1, .long a2, .long a3, .int a4] σ (.ok (some (.int r.1))) r.2 := by
  unfold m_X4_box at h
  refine ofV 2 (by decide +kernel) rfl hE hnt (Nat.le_of_ble_eq_true rfl) rfl (fun M hN K => ?_)
  refine v_aload0 (pc := 0) K dX4_box_0 ?_
  refine v_ic0 (pc := 1) K dX4_box_1 ?_
  refine v_put (pc := 2) K fw_RX4_69 dX4_box_2 rfl rfl (Nat.le_of_ble_eq_true rfl) rfl rfl ?_
  refine v_aload0 (pc := 5) K dX4_box_5 ?_
  refine v_iload1 (pc := 6) K dX4_box_6 ?_
  refine v_iload2 (pc := 7) K dX4_box_7 ?_
  obtain ⟨v1, h2, h⟩ := bd h
  refine v_cV2I (pc := 8)  K ca_yX4_areIn ml_RX4_164 (Nat.le_of_ble_eq_true rfl) rfl rfl (t_X4_areIn _ K.nt K.ad (sI σ 0 0 (0 : Int32)) a0 a1 v1 h2) (Nat.le_of_ble_eq_true rfl) (by decide) (by decide) dX4_box_8 ?_
  refine v_if_ne (pc := 11) (tgt := 20) K dX4_box_11 (by decide) (fun c3 => ?_) (fun c3 => ?_)
  · have h := ie c3 h
    refine v_lload5 (pc := 20) K dX4_box_20 ?_
    refine v_lc1 (pc := 22) K dX4_box_22 ?_
    refine v_lc_lt (pc := 23) (tgt := 32) K dX4_box_23 dX4_box_24 (by decide) (fun c4 => ?_) (fun c4 => ?_)
    · have h := it c4 h
      refine v_aload0 (pc := 32) K dX4_box_32 ?_
      refine v_ic2 (pc := 33) K dX4_box_33 ?_
      obtain ⟨v5, h6, h⟩ := bd h
      refine v_cV1I (pc := 34)  K ca_yX4_fails ml_RX4_105 (Nat.le_of_ble_eq_true rfl) rfl rfl (t_X4_fails _ K.nt K.ad (sI σ 0 0 (0 : Int32)) (2 : Int32) v5 h6) (Nat.le_of_ble_eq_true rfl) (by decide) (by decide) dX4_box_34 ?_
      cases h
      exact v_iret (pc := 37) K dX4_box_37 rfl rfl
    · have h := ie c4 h
      refine v_iload7 (pc := 27) K dX4_box_27 ?_
      refine v_if_ge (pc := 29) (tgt := 38) K dX4_box_29 (by decide) (fun c7 => ?_) (fun c7 => ?_)
      · have h := it c7 h
        refine v_aload0 (pc := 38) K dX4_box_38 ?_
        refine v_iload1 (pc := 39) K dX4_box_39 ?_
        refine v_iload2 (pc := 40) K dX4_box_40 ?_
        obtain ⟨v8, h9, h⟩ := bd h
        refine v_cV2U (pc := 41)  K ca_yX4_lists ml_RX4_199 (Nat.le_of_ble_eq_true rfl) rfl rfl (t_X4_lists _ K.nt K.ad (sI σ 0 0 (0 : Int32)) a0 a1 v8 h9) (Nat.le_of_ble_eq_true rfl) (by decide) (by decide) dX4_box_41 ?_
        refine v_ic0 (pc := 44) K dX4_box_44 ?_
        refine v_istore8 (pc := 45) K dX4_box_45 rfl (Nat.le_of_ble_eq_true rfl) ?_
        refine v_ic0 (pc := 47) K dX4_box_47 ?_
        refine v_istore9 (pc := 48) K dX4_box_48 rfl (Nat.le_of_ble_eq_true rfl) ?_
        obtain ⟨r11, h13, h⟩ := bd h
        have hJ12 : V (mkX M YM E base 10 (.ok (some (.int r.1))) r.2) v8 111 [none, none, none, none, none, none, none, none, some (.int r11), none] [] := by
          refine v_iload8 (pc := 111) K dX4_box_111 ?_
          cases h
          exact v_iret (pc := 113) K dX4_box_113 rfl rfl
        clear h
        refine v_fg [true, false, false, true, true, true, true, true, true, true] ?_
        have hL31 := lpv h13 (fun s10 : Int32 × Int32 => V (mkX M YM E base 10 (.ok (some (.int r.1))) r.2) v8 50 [some (.ref (E.2.2 0)), none, none, some (.long a2), none, some (.long a3), none, some (.int a4), some (.int s10.1), some (.int s10.2)] [])
        refine hL31 (fun s10 o h hk => ?_)
        refine v_iload9 (pc := 50) K dX4_box_50 ?_
        refine v_aload0 (pc := 52) K dX4_box_52 ?_
        refine v_getI (pc := 53) K fl_RX4_196 dX4_box_53 (Nat.le_of_ble_eq_true rfl) rfl rfl ?_
        refine v_icmp_ge (pc := 56) (tgt := 111) K dX4_box_56 (by decide) (fun c17 => ?_) (fun c17 => ?_)
        · have h := it c17 h
          have e := lx h hk
          cases e
          exact v_fg [false, true, true, false, true, false, true, false, true, false] hJ12
        · have h := ie c17 h
          refine v_iload8 (pc := 59) K dX4_box_59 ?_
          refine v_aload0 (pc := 61) K dX4_box_61 ?_
          refine v_getR (pc := 62) K fl_RX4_27 dX4_box_62 (Nat.le_of_ble_eq_true rfl) rfl rfl ?_
          refine v_iload9 (pc := 65) K dX4_box_65 ?_
          obtain ⟨j18, h19, h⟩ := bd h
          refine v_laload (pc := 67) K dX4_box_67 (Nat.le_of_ble_eq_true rfl) rfl h19 ?_
          refine v_lload3 (pc := 68) K dX4_box_68 ?_
          obtain ⟨t20, h22, h⟩ := bd h
          have hJ21 : V (mkX M YM E base 10 (.ok (some (.int r.1))) r.2) v8 99 [some (.ref (E.2.2 0)), none, none, some (.long a2), none, some (.long a3), none, some (.int a4), none, some (.int s10.2)] [.int t20, .int s10.1] := by
            obtain ⟨v29, h30, h⟩ := bd h
            refine v_cS1I (pc := 99)  K ca_yX4_flag ml_RX4_123 (t_X4_flag _ K.nt K.ad v8 t20 v29 h30) (Nat.le_of_ble_eq_true rfl) (by decide) (by decide) dX4_box_99 ?_
            refine v_iadd (pc := 102) K dX4_box_102 ?_
            refine v_istore8 (pc := 103) K dX4_box_103 rfl (Nat.le_of_ble_eq_true rfl) ?_
            refine v_iinc9 (pc := 105) (w := 1) K dX4_box_105 rfl (Nat.le_of_ble_eq_true rfl) (by decide) ?_
            refine v_goto (pc := 108) (tgt := 50) K dX4_box_108 (by decide) ?_
            have e := lfc h hk
            exact e
          clear h
          have h := h22
          refine v_lc_lt (pc := 69) (tgt := 98) K dX4_box_69 dX4_box_70 (by decide) (fun c23 => ?_) (fun c23 => ?_)
          · have h := it c23 h
            refine v_ic0 (pc := 98) K dX4_box_98 ?_
            cases h
            exact (v_fg [true, true, true, true, true, true, true, true, false, true] hJ21)
          · have h := ie c23 h
            refine v_lload5 (pc := 73) K dX4_box_73 ?_
            refine v_aload0 (pc := 75) K dX4_box_75 ?_
            refine v_getR (pc := 76) K fl_RX4_27 dX4_box_76 (Nat.le_of_ble_eq_true rfl) rfl rfl ?_
            refine v_iload9 (pc := 79) K dX4_box_79 ?_
            obtain ⟨j24, h25, h⟩ := bd h
            refine v_laload (pc := 81) K dX4_box_81 (Nat.le_of_ble_eq_true rfl) rfl h25 ?_
            refine v_lload3 (pc := 82) K dX4_box_82 ?_
            refine v_lsub (pc := 83) K dX4_box_83 ?_
            obtain ⟨v26, h27, h⟩ := bd h
            refine v_cS2L (pc := 84)  K ca_yX4_goesInto ml_RX4_246 (t_X4_goesInto _ K.nt K.ad v8 a3 (v8.2 6 j24 - a2) v26 h27) (Nat.le_of_ble_eq_true rfl) (by decide) (by decide) dX4_box_84 ?_
            refine v_iload7 (pc := 87) K dX4_box_87 ?_
            refine v_i2l (pc := 89) K dX4_box_89 ?_
            refine v_lc_ne (pc := 90) (tgt := 98) K dX4_box_90 dX4_box_91 (by decide) (fun c28 => ?_) (fun c28 => ?_)
            · have h := ie c28 h
              refine v_ic0 (pc := 98) K dX4_box_98 ?_
              cases h
              exact (v_fg [true, true, true, true, true, true, true, true, false, true] hJ21)
            · have h := it c28 h
              refine v_ic1 (pc := 94) K dX4_box_94 ?_
              refine v_goto (pc := 95) (tgt := 99) K dX4_box_95 (by decide) ?_
              cases h
              exact (v_fg [true, true, true, true, true, true, true, true, false, true] hJ21)
      · have h := ie c7 h
        refine v_aload0 (pc := 32) K dX4_box_32 ?_
        refine v_ic2 (pc := 33) K dX4_box_33 ?_
        obtain ⟨v32, h33, h⟩ := bd h
        refine v_cV1I (pc := 34)  K ca_yX4_fails ml_RX4_105 (Nat.le_of_ble_eq_true rfl) rfl rfl (t_X4_fails _ K.nt K.ad (sI σ 0 0 (0 : Int32)) (2 : Int32) v32 h33) (Nat.le_of_ble_eq_true rfl) (by decide) (by decide) dX4_box_34 ?_
        cases h
        exact v_iret (pc := 37) K dX4_box_37 rfl rfl
  · have h := it c3 h
    refine v_aload0 (pc := 14) K dX4_box_14 ?_
    refine v_ic1 (pc := 15) K dX4_box_15 ?_
    obtain ⟨v34, h35, h⟩ := bd h
    refine v_cV1I (pc := 16)  K ca_yX4_fails ml_RX4_105 (Nat.le_of_ble_eq_true rfl) rfl rfl (t_X4_fails _ K.nt K.ad (sI σ 0 0 (0 : Int32)) (1 : Int32) v34 h35) (Nat.le_of_ble_eq_true rfl) (by decide) (by decide) dX4_box_16 ?_
    cases h
    exact v_iret (pc := 19) K dX4_box_19 rfl rfl
set_option maxRecDepth 100000 in
def m_X4_begins (σ : St) : Option (St) :=
  ((lp 5000 (fun (s1 : Int32 × St) => (if (192 : Int32) ≤ s1.1 then some (.inr s1.2) else ((ix s1.1 192).bind fun j9 => some (.inl ((s1.1 + 1), (sI s1.2 9 j9 (nz (0 : Int32)))))))) ((0 : Int32), (sI σ 0 14 (0 : Int32)))).bind fun (r2 : St) => some r2)
set_option maxHeartbeats 4000000 in
set_option maxRecDepth 100000 in
theorem t_X4_begins (l : Launch) (hnt : l.stackTraces = false) {E : Ev} {base : Nat} (hE : Adr YM E base) (σ : St) (r : St) (h : m_X4_begins σ = some r) : Ctr l yX4_begins cX4_begins 2 none 0 0 YM E base [.ref (E.2.2 0)] σ (.ok none) r := by
  unfold m_X4_begins at h
  refine ofV 1 (by decide +kernel) rfl hE hnt (Nat.le_of_ble_eq_true rfl) rfl (fun M hN K => ?_)
  refine v_aload0 (pc := 0) K dX4_begins_0 ?_
  refine v_ic0 (pc := 1) K dX4_begins_1 ?_
  refine v_put (pc := 2) K fw_RX4_249 dX4_begins_2 (by decide) (by decide) (Nat.le_of_ble_eq_true rfl) rfl rfl ?_
  refine v_ic0 (pc := 5) K dX4_begins_5 ?_
  refine v_istore1 (pc := 6) K dX4_begins_6 rfl (Nat.le_of_ble_eq_true rfl) ?_
  obtain ⟨r2, h4, h⟩ := bd h
  have hJ3 : V (mkX M YM E base 2 (.ok none) r) r2 27 [none, none] [] := by
    cases h
    exact v_vret (pc := 27) K dX4_begins_27 rfl rfl
  clear h
  have hL11 := lpv h4 (fun s1 : Int32 × St => V (mkX M YM E base 2 (.ok none) r) s1.2 7 [some (.ref (E.2.2 0)), some (.int s1.1)] [])
  refine hL11 (fun s1 o h hk => ?_)
  refine v_iload1 (pc := 7) K dX4_begins_7 ?_
  refine v_sipush (pc := 8) (v := 192) K dX4_begins_8 (by decide) ?_
  refine v_icmp_ge (pc := 11) (tgt := 27) K dX4_begins_11 (by decide) (fun c8 => ?_) (fun c8 => ?_)
  · have h := it c8 h
    have e := lx h hk
    cases e
    exact v_fg [false, false] hJ3
  · have h := ie c8 h
    refine v_aload0 (pc := 14) K dX4_begins_14 ?_
    refine v_getR (pc := 15) K fl_RX4_36 dX4_begins_15 (Nat.le_of_ble_eq_true rfl) rfl rfl ?_
    refine v_iload1 (pc := 18) K dX4_begins_18 ?_
    refine v_ic0 (pc := 19) K dX4_begins_19 ?_
    obtain ⟨j9, h10, h⟩ := bd h
    refine v_zastore (pc := 20) K dX4_begins_20 (Nat.le_of_ble_eq_true rfl) rfl h10 ?_
    refine v_iinc1 (pc := 21) (w := 1) K dX4_begins_21 rfl (Nat.le_of_ble_eq_true rfl) (by decide) ?_
    refine v_goto (pc := 24) (tgt := 7) K dX4_begins_24 (by decide) ?_
    have e := lfc h hk
    exact e
set_option maxRecDepth 100000 in
def m_X4_lays (σ : St) (a0 : Int32) (a1 : Int32) (a2 : Int64) : Option (St) :=
  ((m_X4_fits σ a0 a2).bind fun v1 => ((if v1 = 0 then some (sI σ 0 14 (1 : Int32)) else some σ).bind fun (t3 : St) => ((ix a1 192).bind fun j7 => ((ix a1 192).bind fun j9 => some (sL (sI t3 9 j7 (nz (1 : Int32))) 8 j9 a2)))))
set_option maxHeartbeats 4000000 in
set_option maxRecDepth 100000 in
theorem t_X4_lays (l : Launch) (hnt : l.stackTraces = false) {E : Ev} {base : Nat} (hE : Adr YM E base) (σ : St) (a0 : Int32) (a1 : Int32) (a2 : Int64) (r : St) (h : m_X4_lays σ a0 a1 a2 = some r) : Ctr l yX4_lays cX4_lays 5 none 2 48 YM E base [.ref (E.2.2 0), .int a0, .int a1, .long a2] σ (.ok none) r := by
  unfold m_X4_lays at h
  refine ofV 0 (by decide +kernel) rfl hE hnt (Nat.le_of_ble_eq_true rfl) rfl (fun M hN K => ?_)
  refine v_aload0 (pc := 0) K dX4_lays_0 ?_
  refine v_iload1 (pc := 1) K dX4_lays_1 ?_
  refine v_lload3 (pc := 2) K dX4_lays_2 ?_
  obtain ⟨v1, h2, h⟩ := bd h
  refine v_cV2I (pc := 3)  K ca_yX4_fits ml_RX4_116 (Nat.le_of_ble_eq_true rfl) rfl rfl (t_X4_fits _ K.nt K.ad σ a0 a2 v1 h2) (Nat.le_of_ble_eq_true rfl) (by decide) (by decide) dX4_lays_3 ?_
  obtain ⟨t3, h5, h⟩ := bd h
  have hJ4 : V (mkX M YM E base 5 (.ok none) r) t3 14 [some (.ref (E.2.2 0)), none, some (.int a1), some (.long a2), none] [] := by
    refine v_aload0 (pc := 14) K dX4_lays_14 ?_
    refine v_getR (pc := 15) K fl_RX4_36 dX4_lays_15 (Nat.le_of_ble_eq_true rfl) rfl rfl ?_
    refine v_iload2 (pc := 18) K dX4_lays_18 ?_
    refine v_ic1 (pc := 19) K dX4_lays_19 ?_
    obtain ⟨j7, h8, h⟩ := bd h
    refine v_zastore (pc := 20) K dX4_lays_20 (Nat.le_of_ble_eq_true rfl) rfl h8 ?_
    refine v_aload0 (pc := 21) K dX4_lays_21 ?_
    refine v_getR (pc := 22) K fl_RX4_33 dX4_lays_22 (Nat.le_of_ble_eq_true rfl) rfl rfl ?_
    refine v_iload2 (pc := 25) K dX4_lays_25 ?_
    refine v_lload3 (pc := 26) K dX4_lays_26 ?_
    obtain ⟨j9, h10, h⟩ := bd h
    refine v_lastore (pc := 27) K dX4_lays_27 (Nat.le_of_ble_eq_true rfl) rfl h10 ?_
    cases h
    exact v_vret (pc := 28) K dX4_lays_28 rfl rfl
  clear h
  have h := h5
  refine v_if_ne (pc := 6) (tgt := 14) K dX4_lays_6 (by decide) (fun c6 => ?_) (fun c6 => ?_)
  · have h := ie c6 h
    cases h
    exact (v_fg [true, false, true, true, true] hJ4)
  · have h := it c6 h
    refine v_aload0 (pc := 9) K dX4_lays_9 ?_
    refine v_ic1 (pc := 10) K dX4_lays_10 ?_
    refine v_put (pc := 11) K fw_RX4_249 dX4_lays_11 (by decide) (by decide) (Nat.le_of_ble_eq_true rfl) rfl rfl ?_
    cases h
    exact (v_fg [true, false, true, true, true] hJ4)
set_option maxRecDepth 100000 in
def m_X4_done (σ : St) (a0 : Int32) (a1 : Int32) : Option (Int32 × St) :=
  (if σ.1 0 14 = 0 then ((lp 5000 (fun (s2 : Int32 × Int32 × St) => (if s2.2.2.1 0 5 ≤ s2.2.1 then some (.inr (s2.1, s2.2.2)) else ((ix s2.2.1 192).bind fun j10 => ((if s2.2.2.1 9 j10 = 0 then some (s2.1, s2.2.2) else ((m_X4_at s2.2.2 a0 s2.2.1).bind fun v16 => ((ix s2.2.1 192).bind fun j18 => ((ix v16 1152).bind fun j20 => ((m_X4_at (sL s2.2.2 1 j20 (s2.2.2.2 8 j18)) a0 s2.2.1).bind fun v22 => ((ix v22 1152).bind fun j24 => some ((s2.1 + 1), (sI (sL s2.2.2 1 j20 (s2.2.2.2 8 j18)) 2 j24 (nz (1 : Int32)))))))))).bind fun (t12 : Int32 × St) => some (.inl (t12.1, (s2.2.1 + 1), t12.2)))))) ((0 : Int32), (0 : Int32), σ)).bind fun (r3 : Int32 × St) => some (r3.1, r3.2)) else ((m_X4_tooGreat σ a1).bind fun v27 => some (v27.1, v27.2)))
set_option maxHeartbeats 4000000 in
set_option maxRecDepth 100000 in
theorem t_X4_done (l : Launch) (hnt : l.stackTraces = false) {E : Ev} {base : Nat} (hE : Adr YM E base) (σ : St) (a0 : Int32) (a1 : Int32) (r : Int32 × St) (h : m_X4_done σ a0 a1 = some r) : Ctr l yX4_done cX4_done 5 (some .int) 2 42 YM E base [.ref (E.2.2 0), .int a0, .int a1] σ (.ok (some (.int r.1))) r.2 := by
  unfold m_X4_done at h
  refine ofV 2 (by decide +kernel) rfl hE hnt (Nat.le_of_ble_eq_true rfl) rfl (fun M hN K => ?_)
  refine v_aload0 (pc := 0) K dX4_done_0 ?_
  refine v_getI (pc := 1) K fl_RX4_249 dX4_done_1 (Nat.le_of_ble_eq_true rfl) rfl rfl ?_
  refine v_if_eq (pc := 4) (tgt := 13) K dX4_done_4 (by decide) (fun c1 => ?_) (fun c1 => ?_)
  · have h := it c1 h
    refine v_ic0 (pc := 13) K dX4_done_13 ?_
    refine v_istore3 (pc := 14) K dX4_done_14 rfl (Nat.le_of_ble_eq_true rfl) ?_
    refine v_ic0 (pc := 15) K dX4_done_15 ?_
    refine v_istore4 (pc := 16) K dX4_done_16 rfl (Nat.le_of_ble_eq_true rfl) ?_
    obtain ⟨r3, h5, h⟩ := bd h
    have hJ4 : V (mkX M YM E base 5 (.ok (some (.int r.1))) r.2) r3.2 79 [none, none, none, some (.int r3.1), none] [] := by
      refine v_iload3 (pc := 79) K dX4_done_79 ?_
      cases h
      exact v_iret (pc := 80) K dX4_done_80 rfl rfl
    clear h
    refine v_fg [true, true, false, true, true] ?_
    have hL26 := lpv h5 (fun s2 : Int32 × Int32 × St => V (mkX M YM E base 5 (.ok (some (.int r.1))) r.2) s2.2.2 18 [some (.ref (E.2.2 0)), some (.int a0), none, some (.int s2.1), some (.int s2.2.1)] [])
    refine hL26 (fun s2 o h hk => ?_)
    refine v_iload4 (pc := 18) K dX4_done_18 ?_
    refine v_aload0 (pc := 20) K dX4_done_20 ?_
    refine v_getI (pc := 21) K fl_RX4_80 dX4_done_21 (Nat.le_of_ble_eq_true rfl) rfl rfl ?_
    refine v_icmp_ge (pc := 24) (tgt := 79) K dX4_done_24 (by decide) (fun c9 => ?_) (fun c9 => ?_)
    · have h := it c9 h
      have e := lx h hk
      cases e
      exact v_fg [false, false, true, true, false] hJ4
    · have h := ie c9 h
      refine v_aload0 (pc := 27) K dX4_done_27 ?_
      refine v_getR (pc := 28) K fl_RX4_36 dX4_done_28 (Nat.le_of_ble_eq_true rfl) rfl rfl ?_
      refine v_iload4 (pc := 31) K dX4_done_31 ?_
      obtain ⟨j10, h11, h⟩ := bd h
      refine v_zaload (pc := 33) K dX4_done_33 (Nat.le_of_ble_eq_true rfl) rfl h11 ?_
      obtain ⟨t12, h14, h⟩ := bd h
      have hJ13 : V (mkX M YM E base 5 (.ok (some (.int r.1))) r.2) t12.2 73 [some (.ref (E.2.2 0)), some (.int a0), none, some (.int t12.1), some (.int s2.2.1)] [] := by
        refine v_iinc4 (pc := 73) (w := 1) K dX4_done_73 rfl (Nat.le_of_ble_eq_true rfl) (by decide) ?_
        refine v_goto (pc := 76) (tgt := 18) K dX4_done_76 (by decide) ?_
        have e := lfc h hk
        exact e
      clear h
      have h := h14
      refine v_if_ne (pc := 34) (tgt := 40) K dX4_done_34 (by decide) (fun c15 => ?_) (fun c15 => ?_)
      · have h := ie c15 h
        refine v_aload0 (pc := 40) K dX4_done_40 ?_
        refine v_getR (pc := 41) K fl_RX4_7 dX4_done_41 (Nat.le_of_ble_eq_true rfl) rfl rfl ?_
        refine v_iload1 (pc := 44) K dX4_done_44 ?_
        refine v_iload4 (pc := 45) K dX4_done_45 ?_
        obtain ⟨v16, h17, h⟩ := bd h
        refine v_cS2I (pc := 47)  K ca_yX4_at ml_RX4_94 (t_X4_at _ K.nt K.ad s2.2.2 a0 s2.2.1 v16 h17) (Nat.le_of_ble_eq_true rfl) (by decide) (by decide) dX4_done_47 ?_
        refine v_aload0 (pc := 50) K dX4_done_50 ?_
        refine v_getR (pc := 51) K fl_RX4_33 dX4_done_51 (Nat.le_of_ble_eq_true rfl) rfl rfl ?_
        refine v_iload4 (pc := 54) K dX4_done_54 ?_
        obtain ⟨j18, h19, h⟩ := bd h
        refine v_laload (pc := 56) K dX4_done_56 (Nat.le_of_ble_eq_true rfl) rfl h19 ?_
        obtain ⟨j20, h21, h⟩ := bd h
        refine v_lastore (pc := 57) K dX4_done_57 (Nat.le_of_ble_eq_true rfl) rfl h21 ?_
        refine v_aload0 (pc := 58) K dX4_done_58 ?_
        refine v_getR (pc := 59) K fl_RX4_13 dX4_done_59 (Nat.le_of_ble_eq_true rfl) rfl rfl ?_
        refine v_iload1 (pc := 62) K dX4_done_62 ?_
        refine v_iload4 (pc := 63) K dX4_done_63 ?_
        obtain ⟨v22, h23, h⟩ := bd h
        refine v_cS2I (pc := 65)  K ca_yX4_at ml_RX4_94 (t_X4_at _ K.nt K.ad (sL s2.2.2 1 j20 (s2.2.2.2 8 j18)) a0 s2.2.1 v22 h23) (Nat.le_of_ble_eq_true rfl) (by decide) (by decide) dX4_done_65 ?_
        refine v_ic1 (pc := 68) K dX4_done_68 ?_
        obtain ⟨j24, h25, h⟩ := bd h
        refine v_zastore (pc := 69) K dX4_done_69 (Nat.le_of_ble_eq_true rfl) rfl h25 ?_
        refine v_iinc3 (pc := 70) (w := 1) K dX4_done_70 rfl (Nat.le_of_ble_eq_true rfl) (by decide) ?_
        cases h
        exact hJ13
      · have h := it c15 h
        refine v_goto (pc := 37) (tgt := 73) K dX4_done_37 (by decide) ?_
        cases h
        exact hJ13
  · have h := ie c1 h
    refine v_aload0 (pc := 7) K dX4_done_7 ?_
    refine v_iload2 (pc := 8) K dX4_done_8 ?_
    obtain ⟨v27, h28, h⟩ := bd h
    refine v_cV1I (pc := 9)  K ca_yX4_tooGreat ml_RX4_120 (Nat.le_of_ble_eq_true rfl) rfl rfl (t_X4_tooGreat _ K.nt K.ad σ a1 v27 h28) (Nat.le_of_ble_eq_true rfl) (by decide) (by decide) dX4_done_9 ?_
    cases h
    exact v_iret (pc := 12) K dX4_done_12 rfl rfl
set_option maxRecDepth 100000 in
def m_X4_add (σ : St) (a0 : Int32) (a1 : Int64) (a2 : Int32) : Option (Int32 × St) :=
  ((m_X4_areIn (sI σ 0 0 (0 : Int32)) a0 a2).bind fun v1 => (if v1 = 0 then ((m_X4_fails (sI σ 0 0 (0 : Int32)) (1 : Int32)).bind fun v36 => some (v36.1, v36.2)) else ((m_X4_begins (sI σ 0 0 (0 : Int32))).bind fun v4 => ((lp 5000 (fun (s6 : Int32 × St) => (if s6.2.1 0 5 ≤ s6.1 then some (.inr s6.2) else ((m_X4_hasUnder s6.2 a0 s6.1 a2).bind fun v14 => ((if v14 = 0 then some s6.2 else ((m_X4_at s6.2 a0 s6.1).bind fun v20 => ((ix v20 1152).bind fun j22 => ((m_X4_most s6.2 a0).bind fun v24 => ((m_X4_most s6.2 a0).bind fun v26 => ((m_X4_isIn s6.2 a1 (((-v24) - (1 : Int64)) - s6.2.2 1 j22) (v26 - s6.2.2 1 j22)).bind fun v28 => (if v28 = 0 then some (sI s6.2 0 14 (1 : Int32)) else ((m_X4_lays s6.2 a0 s6.1 (s6.2.2 1 j22 + a1)).bind fun v31 => some v31)))))))).bind fun (t16 : St) => some (.inl ((s6.1 + 1), t16)))))) ((0 : Int32), v4)).bind fun (r7 : St) => ((m_X4_done r7 a0 (2 : Int32)).bind fun v33 => some (v33.1, v33.2))))))
set_option maxHeartbeats 4000000 in
set_option maxRecDepth 100000 in
theorem t_X4_add (l : Launch) (hnt : l.stackTraces = false) {E : Ev} {base : Nat} (hE : Adr YM E base) (σ : St) (a0 : Int32) (a1 : Int64) (a2 : Int32) (r : Int32 × St) (h : m_X4_add σ a0 a1 a2 = some r) : Ctr l yX4_add cX4_add 8 (some .int) 3 72 YM E base [.ref (E.2.2 0), .int a0, .long a1, .int a2] σ (.ok (some (.int r.1))) r.2 := by
  unfold m_X4_add at h
  refine ofV 3 (by decide +kernel) rfl hE hnt (Nat.le_of_ble_eq_true rfl) rfl (fun M hN K => ?_)
  refine v_aload0 (pc := 0) K dX4_add_0 ?_
  refine v_ic0 (pc := 1) K dX4_add_1 ?_
  refine v_put (pc := 2) K fw_RX4_69 dX4_add_2 rfl rfl (Nat.le_of_ble_eq_true rfl) rfl rfl ?_
  refine v_aload0 (pc := 5) K dX4_add_5 ?_
  refine v_iload1 (pc := 6) K dX4_add_6 ?_
  refine v_iload4 (pc := 7) K dX4_add_7 ?_
  obtain ⟨v1, h2, h⟩ := bd h
  refine v_cV2I (pc := 9)  K ca_yX4_areIn ml_RX4_164 (Nat.le_of_ble_eq_true rfl) rfl rfl (t_X4_areIn _ K.nt K.ad (sI σ 0 0 (0 : Int32)) a0 a2 v1 h2) (Nat.le_of_ble_eq_true rfl) (by decide) (by decide) dX4_add_9 ?_
  refine v_if_ne (pc := 12) (tgt := 21) K dX4_add_12 (by decide) (fun c3 => ?_) (fun c3 => ?_)
  · have h := ie c3 h
    refine v_aload0 (pc := 21) K dX4_add_21 ?_
    obtain ⟨v4, h5, h⟩ := bd h
    refine v_cV0U (pc := 22)  K ca_yX4_begins ml_RX4_253 (Nat.le_of_ble_eq_true rfl) rfl rfl (t_X4_begins _ K.nt K.ad (sI σ 0 0 (0 : Int32)) v4 h5) (Nat.le_of_ble_eq_true rfl) (by decide) (by decide) dX4_add_22 ?_
    refine v_ic0 (pc := 25) K dX4_add_25 ?_
    refine v_istore5 (pc := 26) K dX4_add_26 rfl (Nat.le_of_ble_eq_true rfl) ?_
    obtain ⟨r7, h9, h⟩ := bd h
    have hJ8 : V (mkX M YM E base 8 (.ok (some (.int r.1))) r.2) r7 116 [some (.ref (E.2.2 0)), some (.int a0), none, none, none, none, none, none] [] := by
      refine v_aload0 (pc := 116) K dX4_add_116 ?_
      refine v_iload1 (pc := 117) K dX4_add_117 ?_
      refine v_ic2 (pc := 118) K dX4_add_118 ?_
      obtain ⟨v33, h34, h⟩ := bd h
      refine v_cV2I (pc := 119)  K ca_yX4_done ml_RX4_260 (Nat.le_of_ble_eq_true rfl) rfl rfl (t_X4_done _ K.nt K.ad r7 a0 (2 : Int32) v33 h34) (Nat.le_of_ble_eq_true rfl) (by decide) (by decide) dX4_add_119 ?_
      cases h
      exact v_iret (pc := 122) K dX4_add_122 rfl rfl
    clear h
    have hL35 := lpv h9 (fun s6 : Int32 × St => V (mkX M YM E base 8 (.ok (some (.int r.1))) r.2) s6.2 28 [some (.ref (E.2.2 0)), some (.int a0), some (.long a1), none, some (.int a2), some (.int s6.1), none, none] [])
    refine hL35 (fun s6 o h hk => ?_)
    refine v_iload5 (pc := 28) K dX4_add_28 ?_
    refine v_aload0 (pc := 30) K dX4_add_30 ?_
    refine v_getI (pc := 31) K fl_RX4_80 dX4_add_31 (Nat.le_of_ble_eq_true rfl) rfl rfl ?_
    refine v_icmp_ge (pc := 34) (tgt := 116) K dX4_add_34 (by decide) (fun c13 => ?_) (fun c13 => ?_)
    · have h := it c13 h
      have e := lx h hk
      cases e
      exact v_fg [true, true, false, true, false, false, true, true] hJ8
    · have h := ie c13 h
      refine v_aload0 (pc := 37) K dX4_add_37 ?_
      refine v_iload1 (pc := 38) K dX4_add_38 ?_
      refine v_iload5 (pc := 39) K dX4_add_39 ?_
      refine v_iload4 (pc := 41) K dX4_add_41 ?_
      obtain ⟨v14, h15, h⟩ := bd h
      refine v_cV3I (pc := 43)  K ca_yX4_hasUnder ml_RX4_170 (Nat.le_of_ble_eq_true rfl) rfl rfl (t_X4_hasUnder _ K.nt K.ad s6.2 a0 s6.1 a2 v14 h15) (Nat.le_of_ble_eq_true rfl) (by decide) (by decide) dX4_add_43 ?_
      obtain ⟨t16, h18, h⟩ := bd h
      have hJ17 : V (mkX M YM E base 8 (.ok (some (.int r.1))) r.2) t16 110 [some (.ref (E.2.2 0)), some (.int a0), some (.long a1), none, some (.int a2), some (.int s6.1), none, none] [] := by
        refine v_iinc5 (pc := 110) (w := 1) K dX4_add_110 rfl (Nat.le_of_ble_eq_true rfl) (by decide) ?_
        refine v_goto (pc := 113) (tgt := 28) K dX4_add_113 (by decide) ?_
        have e := lfc h hk
        exact e
      clear h
      have h := h18
      refine v_if_ne (pc := 46) (tgt := 52) K dX4_add_46 (by decide) (fun c19 => ?_) (fun c19 => ?_)
      · have h := ie c19 h
        refine v_aload0 (pc := 52) K dX4_add_52 ?_
        refine v_getR (pc := 53) K fl_RX4_7 dX4_add_53 (Nat.le_of_ble_eq_true rfl) rfl rfl ?_
        refine v_iload1 (pc := 56) K dX4_add_56 ?_
        refine v_iload5 (pc := 57) K dX4_add_57 ?_
        obtain ⟨v20, h21, h⟩ := bd h
        refine v_cS2I (pc := 59)  K ca_yX4_at ml_RX4_94 (t_X4_at _ K.nt K.ad s6.2 a0 s6.1 v20 h21) (Nat.le_of_ble_eq_true rfl) (by decide) (by decide) dX4_add_59 ?_
        obtain ⟨j22, h23, h⟩ := bd h
        refine v_laload (pc := 62) K dX4_add_62 (Nat.le_of_ble_eq_true rfl) rfl h23 ?_
        refine v_lstore6 (pc := 63) K dX4_add_63 rfl (Nat.le_of_ble_eq_true rfl) ?_
        refine v_lload2 (pc := 65) K dX4_add_65 ?_
        refine v_aload0 (pc := 66) K dX4_add_66 ?_
        refine v_iload1 (pc := 67) K dX4_add_67 ?_
        obtain ⟨v24, h25, h⟩ := bd h
        refine v_cV1L (pc := 68)  K ca_yX4_most ml_RX4_98 (Nat.le_of_ble_eq_true rfl) rfl rfl (t_X4_most _ K.nt K.ad s6.2 a0 v24 h25) (Nat.le_of_ble_eq_true rfl) (by decide) (by decide) dX4_add_68 ?_
        refine v_lneg (pc := 71) K dX4_add_71 ?_
        refine v_lc1 (pc := 72) K dX4_add_72 ?_
        refine v_lsub (pc := 73) K dX4_add_73 ?_
        refine v_lload6 (pc := 74) K dX4_add_74 ?_
        refine v_lsub (pc := 76) K dX4_add_76 ?_
        refine v_aload0 (pc := 77) K dX4_add_77 ?_
        refine v_iload1 (pc := 78) K dX4_add_78 ?_
        obtain ⟨v26, h27, h⟩ := bd h
        refine v_cV1L (pc := 79)  K ca_yX4_most ml_RX4_98 (Nat.le_of_ble_eq_true rfl) rfl rfl (t_X4_most _ K.nt K.ad s6.2 a0 v26 h27) (Nat.le_of_ble_eq_true rfl) (by decide) (by decide) dX4_add_79 ?_
        refine v_lload6 (pc := 82) K dX4_add_82 ?_
        refine v_lsub (pc := 84) K dX4_add_84 ?_
        obtain ⟨v28, h29, h⟩ := bd h
        refine v_cS3I (pc := 85)  K ca_yX4_isIn ml_RX4_76 (t_X4_isIn _ K.nt K.ad s6.2 a1 (((-v24) - (1 : Int64)) - s6.2.2 1 j22) (v26 - s6.2.2 1 j22) v28 h29) (Nat.le_of_ble_eq_true rfl) (by decide) (by decide) dX4_add_85 ?_
        refine v_if_eq (pc := 88) (tgt := 105) K dX4_add_88 (by decide) (fun c30 => ?_) (fun c30 => ?_)
        · have h := it c30 h
          refine v_aload0 (pc := 105) K dX4_add_105 ?_
          refine v_ic1 (pc := 106) K dX4_add_106 ?_
          refine v_put (pc := 107) K fw_RX4_249 dX4_add_107 (by decide) (by decide) (Nat.le_of_ble_eq_true rfl) rfl rfl ?_
          cases h
          exact (v_fg [true, true, true, true, true, true, false, true] hJ17)
        · have h := ie c30 h
          refine v_aload0 (pc := 91) K dX4_add_91 ?_
          refine v_iload1 (pc := 92) K dX4_add_92 ?_
          refine v_iload5 (pc := 93) K dX4_add_93 ?_
          refine v_lload6 (pc := 95) K dX4_add_95 ?_
          refine v_lload2 (pc := 97) K dX4_add_97 ?_
          refine v_ladd (pc := 98) K dX4_add_98 ?_
          obtain ⟨v31, h32, h⟩ := bd h
          refine v_cV3U (pc := 99)  K ca_yX4_lays ml_RX4_256 (Nat.le_of_ble_eq_true rfl) rfl rfl (t_X4_lays _ K.nt K.ad s6.2 a0 s6.1 (s6.2.2 1 j22 + a1) v31 h32) (Nat.le_of_ble_eq_true rfl) (by decide) (by decide) dX4_add_99 ?_
          refine v_goto (pc := 102) (tgt := 110) K dX4_add_102 (by decide) ?_
          cases h
          exact (v_fg [true, true, true, true, true, true, false, true] hJ17)
      · have h := it c19 h
        refine v_goto (pc := 49) (tgt := 110) K dX4_add_49 (by decide) ?_
        cases h
        exact hJ17
  · have h := it c3 h
    refine v_aload0 (pc := 15) K dX4_add_15 ?_
    refine v_ic1 (pc := 16) K dX4_add_16 ?_
    obtain ⟨v36, h37, h⟩ := bd h
    refine v_cV1I (pc := 17)  K ca_yX4_fails ml_RX4_105 (Nat.le_of_ble_eq_true rfl) rfl rfl (t_X4_fails _ K.nt K.ad (sI σ 0 0 (0 : Int32)) (1 : Int32) v36 h37) (Nat.le_of_ble_eq_true rfl) (by decide) (by decide) dX4_add_17 ?_
    cases h
    exact v_iret (pc := 20) K dX4_add_20 rfl rfl
set_option maxRecDepth 100000 in
def m_X4_plus (σ : St) (a0 : Int32) (a1 : Int32) (a2 : Int32) (a3 : Int32) : Option (Int32 × St) :=
  ((m_X4_areIn (sI σ 0 0 (0 : Int32)) a0 a3).bind fun v1 => (if v1 = 0 then ((m_X4_fails (sI σ 0 0 (0 : Int32)) (1 : Int32)).bind fun v4 => some (v4.1, v4.2)) else ((m_X4_isColumn (sI σ 0 0 (0 : Int32)) a1).bind fun v6 => (if v6 = 0 then ((m_X4_fails (sI σ 0 0 (0 : Int32)) (1 : Int32)).bind fun v51 => some (v51.1, v51.2)) else ((m_X4_begins (sI σ 0 0 (0 : Int32))).bind fun v9 => ((lp 5000 (fun (s11 : Int32 × St) => (if s11.2.1 0 5 ≤ s11.1 then some (.inr s11.2) else ((m_X4_hasUnder s11.2 a0 s11.1 a3).bind fun v19 => ((if v19 = 0 then some s11.2 else ((m_X4_at s11.2 a1 s11.1).bind fun v25 => ((ix v25 1152).bind fun j27 => (if s11.2.1 2 j27 = 0 then some s11.2 else ((m_X4_at s11.2 a1 s11.1).bind fun v30 => ((ix v30 1152).bind fun j32 => ((if a2 = 0 then ((m_X4_at s11.2 a0 s11.1).bind fun v38 => ((ix v38 1152).bind fun j40 => some (s11.2.2 1 j40 + s11.2.2 1 j32))) else ((m_X4_at s11.2 a0 s11.1).bind fun v42 => ((ix v42 1152).bind fun j44 => some (s11.2.2 1 j44 - s11.2.2 1 j32)))).bind fun (t34 : Int64) => ((m_X4_lays s11.2 a0 s11.1 t34).bind fun v46 => some v46)))))))).bind fun (t21 : St) => some (.inl ((s11.1 + 1), t21)))))) ((0 : Int32), v9)).bind fun (r12 : St) => ((m_X4_done r12 a0 (2 : Int32)).bind fun v48 => some (v48.1, v48.2))))))))
set_option maxHeartbeats 4000000 in
set_option maxRecDepth 100000 in
theorem t_X4_plus (l : Launch) (hnt : l.stackTraces = false) {E : Ev} {base : Nat} (hE : Adr YM E base) (σ : St) (a0 : Int32) (a1 : Int32) (a2 : Int32) (a3 : Int32) (r : Int32 × St) (h : m_X4_plus σ a0 a1 a2 a3 = some r) : Ctr l yX4_plus cX4_plus 8 (some .int) 3 72 YM E base [.ref (E.2.2 0), .int a0, .int a1, .int a2, .int a3] σ (.ok (some (.int r.1))) r.2 := by
  unfold m_X4_plus at h
  refine ofV 3 (by decide +kernel) rfl hE hnt (Nat.le_of_ble_eq_true rfl) rfl (fun M hN K => ?_)
  refine v_aload0 (pc := 0) K dX4_plus_0 ?_
  refine v_ic0 (pc := 1) K dX4_plus_1 ?_
  refine v_put (pc := 2) K fw_RX4_69 dX4_plus_2 rfl rfl (Nat.le_of_ble_eq_true rfl) rfl rfl ?_
  refine v_aload0 (pc := 5) K dX4_plus_5 ?_
  refine v_iload1 (pc := 6) K dX4_plus_6 ?_
  refine v_iload4 (pc := 7) K dX4_plus_7 ?_
  obtain ⟨v1, h2, h⟩ := bd h
  refine v_cV2I (pc := 9)  K ca_yX4_areIn ml_RX4_164 (Nat.le_of_ble_eq_true rfl) rfl rfl (t_X4_areIn _ K.nt K.ad (sI σ 0 0 (0 : Int32)) a0 a3 v1 h2) (Nat.le_of_ble_eq_true rfl) (by decide) (by decide) dX4_plus_9 ?_
  refine v_if_eq (pc := 12) (tgt := 23) K dX4_plus_12 (by decide) (fun c3 => ?_) (fun c3 => ?_)
  · have h := it c3 h
    refine v_aload0 (pc := 23) K dX4_plus_23 ?_
    refine v_ic1 (pc := 24) K dX4_plus_24 ?_
    obtain ⟨v4, h5, h⟩ := bd h
    refine v_cV1I (pc := 25)  K ca_yX4_fails ml_RX4_105 (Nat.le_of_ble_eq_true rfl) rfl rfl (t_X4_fails _ K.nt K.ad (sI σ 0 0 (0 : Int32)) (1 : Int32) v4 h5) (Nat.le_of_ble_eq_true rfl) (by decide) (by decide) dX4_plus_25 ?_
    cases h
    exact v_iret (pc := 28) K dX4_plus_28 rfl rfl
  · have h := ie c3 h
    refine v_aload0 (pc := 15) K dX4_plus_15 ?_
    refine v_iload2 (pc := 16) K dX4_plus_16 ?_
    obtain ⟨v6, h7, h⟩ := bd h
    refine v_cV1I (pc := 17)  K ca_yX4_isColumn ml_RX4_87 (Nat.le_of_ble_eq_true rfl) rfl rfl (t_X4_isColumn _ K.nt K.ad (sI σ 0 0 (0 : Int32)) a1 v6 h7) (Nat.le_of_ble_eq_true rfl) (by decide) (by decide) dX4_plus_17 ?_
    refine v_if_ne (pc := 20) (tgt := 29) K dX4_plus_20 (by decide) (fun c8 => ?_) (fun c8 => ?_)
    · have h := ie c8 h
      refine v_aload0 (pc := 29) K dX4_plus_29 ?_
      obtain ⟨v9, h10, h⟩ := bd h
      refine v_cV0U (pc := 30)  K ca_yX4_begins ml_RX4_253 (Nat.le_of_ble_eq_true rfl) rfl rfl (t_X4_begins _ K.nt K.ad (sI σ 0 0 (0 : Int32)) v9 h10) (Nat.le_of_ble_eq_true rfl) (by decide) (by decide) dX4_plus_30 ?_
      refine v_ic0 (pc := 33) K dX4_plus_33 ?_
      refine v_istore5 (pc := 34) K dX4_plus_34 rfl (Nat.le_of_ble_eq_true rfl) ?_
      obtain ⟨r12, h14, h⟩ := bd h
      have hJ13 : V (mkX M YM E base 8 (.ok (some (.int r.1))) r.2) r12 135 [some (.ref (E.2.2 0)), some (.int a0), none, none, none, none, none, none] [] := by
        refine v_aload0 (pc := 135) K dX4_plus_135 ?_
        refine v_iload1 (pc := 136) K dX4_plus_136 ?_
        refine v_ic2 (pc := 137) K dX4_plus_137 ?_
        obtain ⟨v48, h49, h⟩ := bd h
        refine v_cV2I (pc := 138)  K ca_yX4_done ml_RX4_260 (Nat.le_of_ble_eq_true rfl) rfl rfl (t_X4_done _ K.nt K.ad r12 a0 (2 : Int32) v48 h49) (Nat.le_of_ble_eq_true rfl) (by decide) (by decide) dX4_plus_138 ?_
        cases h
        exact v_iret (pc := 141) K dX4_plus_141 rfl rfl
      clear h
      have hL50 := lpv h14 (fun s11 : Int32 × St => V (mkX M YM E base 8 (.ok (some (.int r.1))) r.2) s11.2 36 [some (.ref (E.2.2 0)), some (.int a0), some (.int a1), some (.int a2), some (.int a3), some (.int s11.1), none, none] [])
      refine hL50 (fun s11 o h hk => ?_)
      refine v_iload5 (pc := 36) K dX4_plus_36 ?_
      refine v_aload0 (pc := 38) K dX4_plus_38 ?_
      refine v_getI (pc := 39) K fl_RX4_80 dX4_plus_39 (Nat.le_of_ble_eq_true rfl) rfl rfl ?_
      refine v_icmp_ge (pc := 42) (tgt := 135) K dX4_plus_42 (by decide) (fun c18 => ?_) (fun c18 => ?_)
      · have h := it c18 h
        have e := lx h hk
        cases e
        exact v_fg [true, true, false, false, false, false, true, true] hJ13
      · have h := ie c18 h
        refine v_aload0 (pc := 45) K dX4_plus_45 ?_
        refine v_iload1 (pc := 46) K dX4_plus_46 ?_
        refine v_iload5 (pc := 47) K dX4_plus_47 ?_
        refine v_iload4 (pc := 49) K dX4_plus_49 ?_
        obtain ⟨v19, h20, h⟩ := bd h
        refine v_cV3I (pc := 51)  K ca_yX4_hasUnder ml_RX4_170 (Nat.le_of_ble_eq_true rfl) rfl rfl (t_X4_hasUnder _ K.nt K.ad s11.2 a0 s11.1 a3 v19 h20) (Nat.le_of_ble_eq_true rfl) (by decide) (by decide) dX4_plus_51 ?_
        obtain ⟨t21, h23, h⟩ := bd h
        have hJ22 : V (mkX M YM E base 8 (.ok (some (.int r.1))) r.2) t21 129 [some (.ref (E.2.2 0)), some (.int a0), some (.int a1), some (.int a2), some (.int a3), some (.int s11.1), none, none] [] := by
          refine v_iinc5 (pc := 129) (w := 1) K dX4_plus_129 rfl (Nat.le_of_ble_eq_true rfl) (by decide) ?_
          refine v_goto (pc := 132) (tgt := 36) K dX4_plus_132 (by decide) ?_
          have e := lfc h hk
          exact e
        clear h
        have h := h23
        refine v_if_eq (pc := 54) (tgt := 129) K dX4_plus_54 (by decide) (fun c24 => ?_) (fun c24 => ?_)
        · have h := it c24 h
          cases h
          exact hJ22
        · have h := ie c24 h
          refine v_aload0 (pc := 57) K dX4_plus_57 ?_
          refine v_getR (pc := 58) K fl_RX4_13 dX4_plus_58 (Nat.le_of_ble_eq_true rfl) rfl rfl ?_
          refine v_iload2 (pc := 61) K dX4_plus_61 ?_
          refine v_iload5 (pc := 62) K dX4_plus_62 ?_
          obtain ⟨v25, h26, h⟩ := bd h
          refine v_cS2I (pc := 64)  K ca_yX4_at ml_RX4_94 (t_X4_at _ K.nt K.ad s11.2 a1 s11.1 v25 h26) (Nat.le_of_ble_eq_true rfl) (by decide) (by decide) dX4_plus_64 ?_
          obtain ⟨j27, h28, h⟩ := bd h
          refine v_zaload (pc := 67) K dX4_plus_67 (Nat.le_of_ble_eq_true rfl) rfl h28 ?_
          refine v_if_ne (pc := 68) (tgt := 74) K dX4_plus_68 (by decide) (fun c29 => ?_) (fun c29 => ?_)
          · have h := ie c29 h
            refine v_aload0 (pc := 74) K dX4_plus_74 ?_
            refine v_getR (pc := 75) K fl_RX4_7 dX4_plus_75 (Nat.le_of_ble_eq_true rfl) rfl rfl ?_
            refine v_iload2 (pc := 78) K dX4_plus_78 ?_
            refine v_iload5 (pc := 79) K dX4_plus_79 ?_
            obtain ⟨v30, h31, h⟩ := bd h
            refine v_cS2I (pc := 81)  K ca_yX4_at ml_RX4_94 (t_X4_at _ K.nt K.ad s11.2 a1 s11.1 v30 h31) (Nat.le_of_ble_eq_true rfl) (by decide) (by decide) dX4_plus_81 ?_
            obtain ⟨j32, h33, h⟩ := bd h
            refine v_laload (pc := 84) K dX4_plus_84 (Nat.le_of_ble_eq_true rfl) rfl h33 ?_
            refine v_lstore6 (pc := 85) K dX4_plus_85 rfl (Nat.le_of_ble_eq_true rfl) ?_
            refine v_aload0 (pc := 87) K dX4_plus_87 ?_
            refine v_iload1 (pc := 88) K dX4_plus_88 ?_
            refine v_iload5 (pc := 89) K dX4_plus_89 ?_
            refine v_iload3 (pc := 91) K dX4_plus_91 ?_
            obtain ⟨t34, h36, h⟩ := bd h
            have hJ35 : V (mkX M YM E base 8 (.ok (some (.int r.1))) r.2) s11.2 126 [some (.ref (E.2.2 0)), some (.int a0), some (.int a1), some (.int a2), some (.int a3), some (.int s11.1), none, none] [.long t34, .int s11.1, .int a0, .ref (E.2.2 0)] := by
              obtain ⟨v46, h47, h⟩ := bd h
              refine v_cV3U (pc := 126)  K ca_yX4_lays ml_RX4_256 (Nat.le_of_ble_eq_true rfl) rfl rfl (t_X4_lays _ K.nt K.ad s11.2 a0 s11.1 t34 v46 h47) (Nat.le_of_ble_eq_true rfl) (by decide) (by decide) dX4_plus_126 ?_
              cases h
              exact hJ22
            clear h
            have h := h36
            refine v_if_eq (pc := 92) (tgt := 112) K dX4_plus_92 (by decide) (fun c37 => ?_) (fun c37 => ?_)
            · have h := it c37 h
              refine v_aload0 (pc := 112) K dX4_plus_112 ?_
              refine v_getR (pc := 113) K fl_RX4_7 dX4_plus_113 (Nat.le_of_ble_eq_true rfl) rfl rfl ?_
              refine v_iload1 (pc := 116) K dX4_plus_116 ?_
              refine v_iload5 (pc := 117) K dX4_plus_117 ?_
              obtain ⟨v38, h39, h⟩ := bd h
              refine v_cS2I (pc := 119)  K ca_yX4_at ml_RX4_94 (t_X4_at _ K.nt K.ad s11.2 a0 s11.1 v38 h39) (Nat.le_of_ble_eq_true rfl) (by decide) (by decide) dX4_plus_119 ?_
              obtain ⟨j40, h41, h⟩ := bd h
              refine v_laload (pc := 122) K dX4_plus_122 (Nat.le_of_ble_eq_true rfl) rfl h41 ?_
              refine v_lload6 (pc := 123) K dX4_plus_123 ?_
              refine v_ladd (pc := 125) K dX4_plus_125 ?_
              cases h
              exact (v_fg [true, true, true, true, true, true, false, true] hJ35)
            · have h := ie c37 h
              refine v_aload0 (pc := 95) K dX4_plus_95 ?_
              refine v_getR (pc := 96) K fl_RX4_7 dX4_plus_96 (Nat.le_of_ble_eq_true rfl) rfl rfl ?_
              refine v_iload1 (pc := 99) K dX4_plus_99 ?_
              refine v_iload5 (pc := 100) K dX4_plus_100 ?_
              obtain ⟨v42, h43, h⟩ := bd h
              refine v_cS2I (pc := 102)  K ca_yX4_at ml_RX4_94 (t_X4_at _ K.nt K.ad s11.2 a0 s11.1 v42 h43) (Nat.le_of_ble_eq_true rfl) (by decide) (by decide) dX4_plus_102 ?_
              obtain ⟨j44, h45, h⟩ := bd h
              refine v_laload (pc := 105) K dX4_plus_105 (Nat.le_of_ble_eq_true rfl) rfl h45 ?_
              refine v_lload6 (pc := 106) K dX4_plus_106 ?_
              refine v_lsub (pc := 108) K dX4_plus_108 ?_
              refine v_goto (pc := 109) (tgt := 126) K dX4_plus_109 (by decide) ?_
              cases h
              exact (v_fg [true, true, true, true, true, true, false, true] hJ35)
          · have h := it c29 h
            refine v_goto (pc := 71) (tgt := 129) K dX4_plus_71 (by decide) ?_
            cases h
            exact hJ22
    · have h := it c8 h
      refine v_aload0 (pc := 23) K dX4_plus_23 ?_
      refine v_ic1 (pc := 24) K dX4_plus_24 ?_
      obtain ⟨v51, h52, h⟩ := bd h
      refine v_cV1I (pc := 25)  K ca_yX4_fails ml_RX4_105 (Nat.le_of_ble_eq_true rfl) rfl rfl (t_X4_fails _ K.nt K.ad (sI σ 0 0 (0 : Int32)) (1 : Int32) v51 h52) (Nat.le_of_ble_eq_true rfl) (by decide) (by decide) dX4_plus_25 ?_
      cases h
      exact v_iret (pc := 28) K dX4_plus_28 rfl rfl
set_option maxRecDepth 100000 in
def m_X4_scale (σ : St) (a0 : Int32) (a1 : Int32) (a2 : Int32) : Option (Int32 × St) :=
  ((m_X4_areIn (sI σ 0 0 (0 : Int32)) a0 a2).bind fun v1 => (if v1 = 0 then ((m_X4_fails (sI σ 0 0 (0 : Int32)) (1 : Int32)).bind fun v45 => some (v45.1, v45.2)) else ((m_X4_isIn (sI σ 0 0 (0 : Int32)) ((a1).toInt64) ((-9) : Int64) (9 : Int64)).bind fun v4 => (if v4 = 0 then ((m_X4_fails (sI σ 0 0 (0 : Int32)) (2 : Int32)).bind fun v43 => some (v43.1, v43.2)) else ((m_X4_begins (sI σ 0 0 (0 : Int32))).bind fun v7 => ((if 0 ≤ a1 then some ((a1).toInt64) else some (((-a1)).toInt64)).bind fun (t9 : Int64) => ((lp 5000 (fun (s13 : Int32 × St) => (if s13.2.1 0 5 ≤ s13.1 then some (.inr s13.2) else ((m_X4_hasUnder s13.2 a0 s13.1 a2).bind fun v21 => ((if v21 = 0 then some s13.2 else ((m_X4_at s13.2 a0 s13.1).bind fun v27 => ((ix v27 1152).bind fun j29 => (if a1 = 0 then ((m_X4_lays s13.2 a0 s13.1 (s13.2.2 1 j29 * (a1).toInt64)).bind fun v32 => some v32) else ((m_X4_amountOf s13.2 (s13.2.2 1 j29)).bind fun v34 => (if t9 = 0 then none else (if v34 ≤ ((4611686018427387904 : Int64) / t9) then ((m_X4_lays s13.2 a0 s13.1 (s13.2.2 1 j29 * (a1).toInt64)).bind fun v38 => some v38) else some (sI s13.2 0 14 (1 : Int32))))))))).bind fun (t23 : St) => some (.inl ((s13.1 + 1), t23)))))) ((0 : Int32), v7)).bind fun (r14 : St) => ((m_X4_done r14 a0 (3 : Int32)).bind fun v40 => some (v40.1, v40.2)))))))))
set_option maxHeartbeats 4000000 in
set_option maxRecDepth 100000 in
theorem t_X4_scale (l : Launch) (hnt : l.stackTraces = false) {E : Ev} {base : Nat} (hE : Adr YM E base) (σ : St) (a0 : Int32) (a1 : Int32) (a2 : Int32) (r : Int32 × St) (h : m_X4_scale σ a0 a1 a2 = some r) : Ctr l yX4_scale cX4_scale 9 (some .int) 3 72 YM E base [.ref (E.2.2 0), .int a0, .int a1, .int a2] σ (.ok (some (.int r.1))) r.2 := by
  unfold m_X4_scale at h
  refine ofV 5 (by decide +kernel) rfl hE hnt (Nat.le_of_ble_eq_true rfl) rfl (fun M hN K => ?_)
  refine v_aload0 (pc := 0) K dX4_scale_0 ?_
  refine v_ic0 (pc := 1) K dX4_scale_1 ?_
  refine v_put (pc := 2) K fw_RX4_69 dX4_scale_2 rfl rfl (Nat.le_of_ble_eq_true rfl) rfl rfl ?_
  refine v_aload0 (pc := 5) K dX4_scale_5 ?_
  refine v_iload1 (pc := 6) K dX4_scale_6 ?_
  refine v_iload3 (pc := 7) K dX4_scale_7 ?_
  obtain ⟨v1, h2, h⟩ := bd h
  refine v_cV2I (pc := 8)  K ca_yX4_areIn ml_RX4_164 (Nat.le_of_ble_eq_true rfl) rfl rfl (t_X4_areIn _ K.nt K.ad (sI σ 0 0 (0 : Int32)) a0 a2 v1 h2) (Nat.le_of_ble_eq_true rfl) (by decide) (by decide) dX4_scale_8 ?_
  refine v_if_ne (pc := 11) (tgt := 20) K dX4_scale_11 (by decide) (fun c3 => ?_) (fun c3 => ?_)
  · have h := ie c3 h
    refine v_iload2 (pc := 20) K dX4_scale_20 ?_
    refine v_i2l (pc := 21) K dX4_scale_21 ?_
    refine v_ldc2 (pc := 22) K dX4_scale_22 cl_RX4_263 ?_
    refine v_ldc2 (pc := 25) K dX4_scale_25 cl_RX4_265 ?_
    obtain ⟨v4, h5, h⟩ := bd h
    refine v_cS3I (pc := 28)  K ca_yX4_isIn ml_RX4_76 (t_X4_isIn _ K.nt K.ad (sI σ 0 0 (0 : Int32)) ((a1).toInt64) ((-9) : Int64) (9 : Int64) v4 h5) (Nat.le_of_ble_eq_true rfl) (by decide) (by decide) dX4_scale_28 ?_
    refine v_if_ne (pc := 31) (tgt := 40) K dX4_scale_31 (by decide) (fun c6 => ?_) (fun c6 => ?_)
    · have h := ie c6 h
      refine v_aload0 (pc := 40) K dX4_scale_40 ?_
      obtain ⟨v7, h8, h⟩ := bd h
      refine v_cV0U (pc := 41)  K ca_yX4_begins ml_RX4_253 (Nat.le_of_ble_eq_true rfl) rfl rfl (t_X4_begins _ K.nt K.ad (sI σ 0 0 (0 : Int32)) v7 h8) (Nat.le_of_ble_eq_true rfl) (by decide) (by decide) dX4_scale_41 ?_
      refine v_iload2 (pc := 44) K dX4_scale_44 ?_
      obtain ⟨t9, h11, h⟩ := bd h
      have hJ10 : V (mkX M YM E base 9 (.ok (some (.int r.1))) r.2) v7 56 [some (.ref (E.2.2 0)), some (.int a0), some (.int a1), some (.int a2), none, none, none, none, none] [.long t9] := by
        refine v_lstore4 (pc := 56) K dX4_scale_56 rfl (Nat.le_of_ble_eq_true rfl) ?_
        refine v_ic0 (pc := 58) K dX4_scale_58 ?_
        refine v_istore6 (pc := 59) K dX4_scale_59 rfl (Nat.le_of_ble_eq_true rfl) ?_
        obtain ⟨r14, h16, h⟩ := bd h
        have hJ15 : V (mkX M YM E base 9 (.ok (some (.int r.1))) r.2) r14 142 [some (.ref (E.2.2 0)), some (.int a0), none, none, none, none, none, none, none] [] := by
          refine v_aload0 (pc := 142) K dX4_scale_142 ?_
          refine v_iload1 (pc := 143) K dX4_scale_143 ?_
          refine v_ic3 (pc := 144) K dX4_scale_144 ?_
          obtain ⟨v40, h41, h⟩ := bd h
          refine v_cV2I (pc := 145)  K ca_yX4_done ml_RX4_260 (Nat.le_of_ble_eq_true rfl) rfl rfl (t_X4_done _ K.nt K.ad r14 a0 (3 : Int32) v40 h41) (Nat.le_of_ble_eq_true rfl) (by decide) (by decide) dX4_scale_145 ?_
          cases h
          exact v_iret (pc := 148) K dX4_scale_148 rfl rfl
        clear h
        have hL42 := lpv h16 (fun s13 : Int32 × St => V (mkX M YM E base 9 (.ok (some (.int r.1))) r.2) s13.2 61 [some (.ref (E.2.2 0)), some (.int a0), some (.int a1), some (.int a2), some (.long t9), none, some (.int s13.1), none, none] [])
        refine hL42 (fun s13 o h hk => ?_)
        refine v_iload6 (pc := 61) K dX4_scale_61 ?_
        refine v_aload0 (pc := 63) K dX4_scale_63 ?_
        refine v_getI (pc := 64) K fl_RX4_80 dX4_scale_64 (Nat.le_of_ble_eq_true rfl) rfl rfl ?_
        refine v_icmp_ge (pc := 67) (tgt := 142) K dX4_scale_67 (by decide) (fun c20 => ?_) (fun c20 => ?_)
        · have h := it c20 h
          have e := lx h hk
          cases e
          exact v_fg [true, true, false, false, false, true, false, true, true] hJ15
        · have h := ie c20 h
          refine v_aload0 (pc := 70) K dX4_scale_70 ?_
          refine v_iload1 (pc := 71) K dX4_scale_71 ?_
          refine v_iload6 (pc := 72) K dX4_scale_72 ?_
          refine v_iload3 (pc := 74) K dX4_scale_74 ?_
          obtain ⟨v21, h22, h⟩ := bd h
          refine v_cV3I (pc := 75)  K ca_yX4_hasUnder ml_RX4_170 (Nat.le_of_ble_eq_true rfl) rfl rfl (t_X4_hasUnder _ K.nt K.ad s13.2 a0 s13.1 a2 v21 h22) (Nat.le_of_ble_eq_true rfl) (by decide) (by decide) dX4_scale_75 ?_
          obtain ⟨t23, h25, h⟩ := bd h
          have hJ24 : V (mkX M YM E base 9 (.ok (some (.int r.1))) r.2) t23 136 [some (.ref (E.2.2 0)), some (.int a0), some (.int a1), some (.int a2), some (.long t9), none, some (.int s13.1), none, none] [] := by
            refine v_iinc6 (pc := 136) (w := 1) K dX4_scale_136 rfl (Nat.le_of_ble_eq_true rfl) (by decide) ?_
            refine v_goto (pc := 139) (tgt := 61) K dX4_scale_139 (by decide) ?_
            have e := lfc h hk
            exact e
          clear h
          have h := h25
          refine v_if_ne (pc := 78) (tgt := 84) K dX4_scale_78 (by decide) (fun c26 => ?_) (fun c26 => ?_)
          · have h := ie c26 h
            refine v_aload0 (pc := 84) K dX4_scale_84 ?_
            refine v_getR (pc := 85) K fl_RX4_7 dX4_scale_85 (Nat.le_of_ble_eq_true rfl) rfl rfl ?_
            refine v_iload1 (pc := 88) K dX4_scale_88 ?_
            refine v_iload6 (pc := 89) K dX4_scale_89 ?_
            obtain ⟨v27, h28, h⟩ := bd h
            refine v_cS2I (pc := 91)  K ca_yX4_at ml_RX4_94 (t_X4_at _ K.nt K.ad s13.2 a0 s13.1 v27 h28) (Nat.le_of_ble_eq_true rfl) (by decide) (by decide) dX4_scale_91 ?_
            obtain ⟨j29, h30, h⟩ := bd h
            refine v_laload (pc := 94) K dX4_scale_94 (Nat.le_of_ble_eq_true rfl) rfl h30 ?_
            refine v_lstore7 (pc := 95) K dX4_scale_95 rfl (Nat.le_of_ble_eq_true rfl) ?_
            refine v_iload2 (pc := 97) K dX4_scale_97 ?_
            refine v_if_eq (pc := 98) (tgt := 124) K dX4_scale_98 (by decide) (fun c31 => ?_) (fun c31 => ?_)
            · have h := it c31 h
              refine v_aload0 (pc := 124) K dX4_scale_124 ?_
              refine v_iload1 (pc := 125) K dX4_scale_125 ?_
              refine v_iload6 (pc := 126) K dX4_scale_126 ?_
              refine v_lload7 (pc := 128) K dX4_scale_128 ?_
              refine v_iload2 (pc := 130) K dX4_scale_130 ?_
              refine v_i2l (pc := 131) K dX4_scale_131 ?_
              refine v_lmul (pc := 132) K dX4_scale_132 ?_
              obtain ⟨v32, h33, h⟩ := bd h
              refine v_cV3U (pc := 133)  K ca_yX4_lays ml_RX4_256 (Nat.le_of_ble_eq_true rfl) rfl rfl (t_X4_lays _ K.nt K.ad s13.2 a0 s13.1 (s13.2.2 1 j29 * (a1).toInt64) v32 h33) (Nat.le_of_ble_eq_true rfl) (by decide) (by decide) dX4_scale_133 ?_
              cases h
              exact (v_fg [true, true, true, true, true, true, true, false, true] hJ24)
            · have h := ie c31 h
              refine v_lload7 (pc := 101) K dX4_scale_101 ?_
              obtain ⟨v34, h35, h⟩ := bd h
              refine v_cS1L (pc := 103)  K ca_yX4_amountOf ml_RX4_207 (t_X4_amountOf _ K.nt K.ad s13.2 (s13.2.2 1 j29) v34 h35) (Nat.le_of_ble_eq_true rfl) (by decide) (by decide) dX4_scale_103 ?_
              refine v_ldc2 (pc := 106) K dX4_scale_106 cl_RX4_267 ?_
              refine v_lload4 (pc := 109) K dX4_scale_109 ?_
              by_cases c36 : t9 = 0
              · cases (it c36 h)
              have h := ie c36 h
              refine v_ldiv (pc := 111) K dX4_scale_111 c36 ?_
              refine v_lc_le (pc := 112) (tgt := 124) K dX4_scale_112 dX4_scale_113 (by decide) (fun c37 => ?_) (fun c37 => ?_)
              · have h := it c37 h
                refine v_aload0 (pc := 124) K dX4_scale_124 ?_
                refine v_iload1 (pc := 125) K dX4_scale_125 ?_
                refine v_iload6 (pc := 126) K dX4_scale_126 ?_
                refine v_lload7 (pc := 128) K dX4_scale_128 ?_
                refine v_iload2 (pc := 130) K dX4_scale_130 ?_
                refine v_i2l (pc := 131) K dX4_scale_131 ?_
                refine v_lmul (pc := 132) K dX4_scale_132 ?_
                obtain ⟨v38, h39, h⟩ := bd h
                refine v_cV3U (pc := 133)  K ca_yX4_lays ml_RX4_256 (Nat.le_of_ble_eq_true rfl) rfl rfl (t_X4_lays _ K.nt K.ad s13.2 a0 s13.1 (s13.2.2 1 j29 * (a1).toInt64) v38 h39) (Nat.le_of_ble_eq_true rfl) (by decide) (by decide) dX4_scale_133 ?_
                cases h
                exact (v_fg [true, true, true, true, true, true, true, false, true] hJ24)
              · have h := ie c37 h
                refine v_aload0 (pc := 116) K dX4_scale_116 ?_
                refine v_ic1 (pc := 117) K dX4_scale_117 ?_
                refine v_put (pc := 118) K fw_RX4_249 dX4_scale_118 (by decide) (by decide) (Nat.le_of_ble_eq_true rfl) rfl rfl ?_
                refine v_goto (pc := 121) (tgt := 136) K dX4_scale_121 (by decide) ?_
                cases h
                exact (v_fg [true, true, true, true, true, true, true, false, true] hJ24)
          · have h := it c26 h
            refine v_goto (pc := 81) (tgt := 136) K dX4_scale_81 (by decide) ?_
            cases h
            exact hJ24
      clear h
      have h := h11
      refine v_if_ge (pc := 45) (tgt := 54) K dX4_scale_45 (by decide) (fun c12 => ?_) (fun c12 => ?_)
      · have h := it c12 h
        refine v_iload2 (pc := 54) K dX4_scale_54 ?_
        refine v_i2l (pc := 55) K dX4_scale_55 ?_
        cases h
        exact hJ10
      · have h := ie c12 h
        refine v_iload2 (pc := 48) K dX4_scale_48 ?_
        refine v_ineg (pc := 49) K dX4_scale_49 ?_
        refine v_i2l (pc := 50) K dX4_scale_50 ?_
        refine v_goto (pc := 51) (tgt := 56) K dX4_scale_51 (by decide) ?_
        cases h
        exact hJ10
    · have h := it c6 h
      refine v_aload0 (pc := 34) K dX4_scale_34 ?_
      refine v_ic2 (pc := 35) K dX4_scale_35 ?_
      obtain ⟨v43, h44, h⟩ := bd h
      refine v_cV1I (pc := 36)  K ca_yX4_fails ml_RX4_105 (Nat.le_of_ble_eq_true rfl) rfl rfl (t_X4_fails _ K.nt K.ad (sI σ 0 0 (0 : Int32)) (2 : Int32) v43 h44) (Nat.le_of_ble_eq_true rfl) (by decide) (by decide) dX4_scale_36 ?_
      cases h
      exact v_iret (pc := 39) K dX4_scale_39 rfl rfl
  · have h := it c3 h
    refine v_aload0 (pc := 14) K dX4_scale_14 ?_
    refine v_ic1 (pc := 15) K dX4_scale_15 ?_
    obtain ⟨v45, h46, h⟩ := bd h
    refine v_cV1I (pc := 16)  K ca_yX4_fails ml_RX4_105 (Nat.le_of_ble_eq_true rfl) rfl rfl (t_X4_fails _ K.nt K.ad (sI σ 0 0 (0 : Int32)) (1 : Int32) v45 h46) (Nat.le_of_ble_eq_true rfl) (by decide) (by decide) dX4_scale_16 ?_
    cases h
    exact v_iret (pc := 19) K dX4_scale_19 rfl rfl
