set_option maxRecDepth 100000 in
def m_X4_against (σ : St) (a0 : Int32) (a1 : Int32) (a2 : Int32) (a3 : Int32) (a4 : Int32) : Option (Int32 × St) :=
  ((m_X4_isMask (sI σ 0 0 (0 : Int32)) a0).bind fun v1 => (if v1 = 0 then ((m_X4_fails (sI σ 0 0 (0 : Int32)) (1 : Int32)).bind fun v4 => some (v4.1, v4.2)) else ((m_X4_areIn (sI σ 0 0 (0 : Int32)) a1 a4).bind fun v6 => (if v6 = 0 then ((m_X4_fails (sI σ 0 0 (0 : Int32)) (1 : Int32)).bind fun v9 => some (v9.1, v9.2)) else ((m_X4_isColumn (sI σ 0 0 (0 : Int32)) a2).bind fun v11 => (if v11 = 0 then ((m_X4_fails (sI σ 0 0 (0 : Int32)) (1 : Int32)).bind fun v54 => some (v54.1, v54.2)) else ((m_X4_isIn (sI σ 0 0 (0 : Int32)) ((a3).toInt64) (0 : Int64) (5 : Int64)).bind fun v14 => (if v14 = 0 then ((m_X4_fails (sI σ 0 0 (0 : Int32)) (2 : Int32)).bind fun v52 => some (v52.1, v52.2)) else ((lp 5000 (fun (s17 : Int32 × St) => (if (192 : Int32) ≤ s17.1 then some (.inr s17.2) else ((m_X4_hasUnder s17.2 a1 s17.1 a4).bind fun v25 => ((if v25 = 0 then some (0 : Int32) else ((m_X4_at s17.2 a2 s17.1).bind fun v31 => ((ix v31 1152).bind fun j33 => (if s17.2.1 2 j33 = 0 then some (0 : Int32) else ((m_X4_at s17.2 a1 s17.1).bind fun v36 => ((ix v36 1152).bind fun j38 => ((m_X4_at s17.2 a2 s17.1).bind fun v40 => ((ix v40 1152).bind fun j42 => ((m_X4_isSo s17.2 (s17.2.2 1 j38) a3 (s17.2.2 1 j42)).bind fun v44 => (if v44 = 0 then some (0 : Int32) else some (1 : Int32))))))))))).bind fun (t27 : Int32) => ((ix s17.1 192).bind fun j47 => some (.inl ((s17.1 + 1), (sI s17.2 5 j47 (nz t27))))))))) ((0 : Int32), (sI σ 0 0 (0 : Int32)))).bind fun (r18 : St) => ((m_X4_becomes r18 a0).bind fun v49 => some (v49.1, v49.2)))))))))))
set_option maxHeartbeats 4000000 in
set_option maxRecDepth 100000 in
theorem t_X4_against (l : Launch) (hnt : l.stackTraces = false) {E : Ev} {base : Nat} (hE : Adr YM E base) (σ : St) (a0 : Int32) (a1 : Int32) (a2 : Int32) (a3 : Int32) (a4 : Int32) (r : Int32 × St) (h : m_X4_against σ a0 a1 a2 a3 a4 = some r) : Ctr l yX4_against cX4_against 7 (some .int) 3 68 YM E base [.ref (E.2.2 0), .int a0, .int a1, .int a2, .int a3, .int a4] σ (.ok (some (.int r.1))) r.2 := by
  unfold m_X4_against at h
  refine ofV 1 (by decide +kernel) rfl hE hnt (Nat.le_of_ble_eq_true rfl) rfl (fun M hN K => ?_)
  refine v_aload0 (pc := 0) K dX4_against_0 ?_
  refine v_ic0 (pc := 1) K dX4_against_1 ?_
  refine v_put (pc := 2) K fw_RX4_69 dX4_against_2 rfl rfl (Nat.le_of_ble_eq_true rfl) rfl rfl ?_
  refine v_iload1 (pc := 5) K dX4_against_5 ?_
  obtain ⟨v1, h2, h⟩ := bd h
  refine v_cS1I (pc := 6)  K ca_yX4_isMask ml_RX4_91 (t_X4_isMask _ K.nt K.ad (sI σ 0 0 (0 : Int32)) a0 v1 h2) (Nat.le_of_ble_eq_true rfl) (by decide) (by decide) dX4_against_6 ?_
  refine v_if_eq (pc := 9) (tgt := 30) K dX4_against_9 (by decide) (fun c3 => ?_) (fun c3 => ?_)
  · have h := it c3 h
    refine v_aload0 (pc := 30) K dX4_against_30 ?_
    refine v_ic1 (pc := 31) K dX4_against_31 ?_
    obtain ⟨v4, h5, h⟩ := bd h
    refine v_cV1I (pc := 32)  K ca_yX4_fails ml_RX4_105 (Nat.le_of_ble_eq_true rfl) rfl rfl (t_X4_fails _ K.nt K.ad (sI σ 0 0 (0 : Int32)) (1 : Int32) v4 h5) (Nat.le_of_ble_eq_true rfl) (by decide) (by decide) dX4_against_32 ?_
    cases h
    exact v_iret (pc := 35) K dX4_against_35 rfl rfl
  · have h := ie c3 h
    refine v_aload0 (pc := 12) K dX4_against_12 ?_
    refine v_iload2 (pc := 13) K dX4_against_13 ?_
    refine v_iload5 (pc := 14) K dX4_against_14 ?_
    obtain ⟨v6, h7, h⟩ := bd h
    refine v_cV2I (pc := 16)  K ca_yX4_areIn ml_RX4_164 (Nat.le_of_ble_eq_true rfl) rfl rfl (t_X4_areIn _ K.nt K.ad (sI σ 0 0 (0 : Int32)) a1 a4 v6 h7) (Nat.le_of_ble_eq_true rfl) (by decide) (by decide) dX4_against_16 ?_
    refine v_if_eq (pc := 19) (tgt := 30) K dX4_against_19 (by decide) (fun c8 => ?_) (fun c8 => ?_)
    · have h := it c8 h
      refine v_aload0 (pc := 30) K dX4_against_30 ?_
      refine v_ic1 (pc := 31) K dX4_against_31 ?_
      obtain ⟨v9, h10, h⟩ := bd h
      refine v_cV1I (pc := 32)  K ca_yX4_fails ml_RX4_105 (Nat.le_of_ble_eq_true rfl) rfl rfl (t_X4_fails _ K.nt K.ad (sI σ 0 0 (0 : Int32)) (1 : Int32) v9 h10) (Nat.le_of_ble_eq_true rfl) (by decide) (by decide) dX4_against_32 ?_
      cases h
      exact v_iret (pc := 35) K dX4_against_35 rfl rfl
    · have h := ie c8 h
      refine v_aload0 (pc := 22) K dX4_against_22 ?_
      refine v_iload3 (pc := 23) K dX4_against_23 ?_
      obtain ⟨v11, h12, h⟩ := bd h
      refine v_cV1I (pc := 24)  K ca_yX4_isColumn ml_RX4_87 (Nat.le_of_ble_eq_true rfl) rfl rfl (t_X4_isColumn _ K.nt K.ad (sI σ 0 0 (0 : Int32)) a2 v11 h12) (Nat.le_of_ble_eq_true rfl) (by decide) (by decide) dX4_against_24 ?_
      refine v_if_ne (pc := 27) (tgt := 36) K dX4_against_27 (by decide) (fun c13 => ?_) (fun c13 => ?_)
      · have h := ie c13 h
        refine v_iload4 (pc := 36) K dX4_against_36 ?_
        refine v_i2l (pc := 38) K dX4_against_38 ?_
        refine v_lc0 (pc := 39) K dX4_against_39 ?_
        refine v_ldc2 (pc := 40) K dX4_against_40 cl_RX4_168 ?_
        obtain ⟨v14, h15, h⟩ := bd h
        refine v_cS3I (pc := 43)  K ca_yX4_isIn ml_RX4_76 (t_X4_isIn _ K.nt K.ad (sI σ 0 0 (0 : Int32)) ((a3).toInt64) (0 : Int64) (5 : Int64) v14 h15) (Nat.le_of_ble_eq_true rfl) (by decide) (by decide) dX4_against_43 ?_
        refine v_if_ne (pc := 46) (tgt := 55) K dX4_against_46 (by decide) (fun c16 => ?_) (fun c16 => ?_)
        · have h := ie c16 h
          refine v_ic0 (pc := 55) K dX4_against_55 ?_
          refine v_istore6 (pc := 56) K dX4_against_56 rfl (Nat.le_of_ble_eq_true rfl) ?_
          obtain ⟨r18, h20, h⟩ := bd h
          have hJ19 : V (mkX M YM E base 7 (.ok (some (.int r.1))) r.2) r18 140 [some (.ref (E.2.2 0)), some (.int a0), none, none, none, none, none] [] := by
            refine v_aload0 (pc := 140) K dX4_against_140 ?_
            refine v_iload1 (pc := 141) K dX4_against_141 ?_
            obtain ⟨v49, h50, h⟩ := bd h
            refine v_cV1I (pc := 142)  K ca_yX4_becomes ml_RX4_159 (Nat.le_of_ble_eq_true rfl) rfl rfl (t_X4_becomes _ K.nt K.ad r18 a0 v49 h50) (Nat.le_of_ble_eq_true rfl) (by decide) (by decide) dX4_against_142 ?_
            cases h
            exact v_iret (pc := 145) K dX4_against_145 rfl rfl
          clear h
          have hL51 := lpv h20 (fun s17 : Int32 × St => V (mkX M YM E base 7 (.ok (some (.int r.1))) r.2) s17.2 58 [some (.ref (E.2.2 0)), some (.int a0), some (.int a1), some (.int a2), some (.int a3), some (.int a4), some (.int s17.1)] [])
          refine hL51 (fun s17 o h hk => ?_)
          refine v_iload6 (pc := 58) K dX4_against_58 ?_
          refine v_sipush (pc := 60) (v := 192) K dX4_against_60 (by decide) ?_
          refine v_icmp_ge (pc := 63) (tgt := 140) K dX4_against_63 (by decide) (fun c24 => ?_) (fun c24 => ?_)
          · have h := it c24 h
            have e := lx h hk
            cases e
            exact v_fg [true, true, false, false, false, false, false] hJ19
          · have h := ie c24 h
            refine v_aload0 (pc := 66) K dX4_against_66 ?_
            refine v_getR (pc := 67) K fl_RX4_24 dX4_against_67 (Nat.le_of_ble_eq_true rfl) rfl rfl ?_
            refine v_iload6 (pc := 70) K dX4_against_70 ?_
            refine v_aload0 (pc := 72) K dX4_against_72 ?_
            refine v_iload2 (pc := 73) K dX4_against_73 ?_
            refine v_iload6 (pc := 74) K dX4_against_74 ?_
            refine v_iload5 (pc := 76) K dX4_against_76 ?_
            obtain ⟨v25, h26, h⟩ := bd h
            refine v_cV3I (pc := 78)  K ca_yX4_hasUnder ml_RX4_170 (Nat.le_of_ble_eq_true rfl) rfl rfl (t_X4_hasUnder _ K.nt K.ad s17.2 a1 s17.1 a4 v25 h26) (Nat.le_of_ble_eq_true rfl) (by decide) (by decide) dX4_against_78 ?_
            obtain ⟨t27, h29, h⟩ := bd h
            have hJ28 : V (mkX M YM E base 7 (.ok (some (.int r.1))) r.2) s17.2 133 [some (.ref (E.2.2 0)), some (.int a0), some (.int a1), some (.int a2), some (.int a3), some (.int a4), some (.int s17.1)] [.int t27, .int s17.1, .ref (E.2.2 5)] := by
              obtain ⟨j47, h48, h⟩ := bd h
              refine v_zastore (pc := 133) K dX4_against_133 (Nat.le_of_ble_eq_true rfl) rfl h48 ?_
              refine v_iinc6 (pc := 134) (w := 1) K dX4_against_134 rfl (Nat.le_of_ble_eq_true rfl) (by decide) ?_
              refine v_goto (pc := 137) (tgt := 58) K dX4_against_137 (by decide) ?_
              have e := lfc h hk
              exact e
            clear h
            have h := h29
            refine v_if_eq (pc := 81) (tgt := 132) K dX4_against_81 (by decide) (fun c30 => ?_) (fun c30 => ?_)
            · have h := it c30 h
              refine v_ic0 (pc := 132) K dX4_against_132 ?_
              cases h
              exact hJ28
            · have h := ie c30 h
              refine v_aload0 (pc := 84) K dX4_against_84 ?_
              refine v_getR (pc := 85) K fl_RX4_13 dX4_against_85 (Nat.le_of_ble_eq_true rfl) rfl rfl ?_
              refine v_iload3 (pc := 88) K dX4_against_88 ?_
              refine v_iload6 (pc := 89) K dX4_against_89 ?_
              obtain ⟨v31, h32, h⟩ := bd h
              refine v_cS2I (pc := 91)  K ca_yX4_at ml_RX4_94 (t_X4_at _ K.nt K.ad s17.2 a2 s17.1 v31 h32) (Nat.le_of_ble_eq_true rfl) (by decide) (by decide) dX4_against_91 ?_
              obtain ⟨j33, h34, h⟩ := bd h
              refine v_zaload (pc := 94) K dX4_against_94 (Nat.le_of_ble_eq_true rfl) rfl h34 ?_
              refine v_if_eq (pc := 95) (tgt := 132) K dX4_against_95 (by decide) (fun c35 => ?_) (fun c35 => ?_)
              · have h := it c35 h
                refine v_ic0 (pc := 132) K dX4_against_132 ?_
                cases h
                exact hJ28
              · have h := ie c35 h
                refine v_aload0 (pc := 98) K dX4_against_98 ?_
                refine v_getR (pc := 99) K fl_RX4_7 dX4_against_99 (Nat.le_of_ble_eq_true rfl) rfl rfl ?_
                refine v_iload2 (pc := 102) K dX4_against_102 ?_
                refine v_iload6 (pc := 103) K dX4_against_103 ?_
                obtain ⟨v36, h37, h⟩ := bd h
                refine v_cS2I (pc := 105)  K ca_yX4_at ml_RX4_94 (t_X4_at _ K.nt K.ad s17.2 a1 s17.1 v36 h37) (Nat.le_of_ble_eq_true rfl) (by decide) (by decide) dX4_against_105 ?_
                obtain ⟨j38, h39, h⟩ := bd h
                refine v_laload (pc := 108) K dX4_against_108 (Nat.le_of_ble_eq_true rfl) rfl h39 ?_
                refine v_iload4 (pc := 109) K dX4_against_109 ?_
                refine v_aload0 (pc := 111) K dX4_against_111 ?_
                refine v_getR (pc := 112) K fl_RX4_7 dX4_against_112 (Nat.le_of_ble_eq_true rfl) rfl rfl ?_
                refine v_iload3 (pc := 115) K dX4_against_115 ?_
                refine v_iload6 (pc := 116) K dX4_against_116 ?_
                obtain ⟨v40, h41, h⟩ := bd h
                refine v_cS2I (pc := 118)  K ca_yX4_at ml_RX4_94 (t_X4_at _ K.nt K.ad s17.2 a2 s17.1 v40 h41) (Nat.le_of_ble_eq_true rfl) (by decide) (by decide) dX4_against_118 ?_
                obtain ⟨j42, h43, h⟩ := bd h
                refine v_laload (pc := 121) K dX4_against_121 (Nat.le_of_ble_eq_true rfl) rfl h43 ?_
                obtain ⟨v44, h45, h⟩ := bd h
                refine v_cS3I (pc := 122)  K ca_yX4_isSo ml_RX4_173 (t_X4_isSo _ K.nt K.ad s17.2 (s17.2.2 1 j38) a3 (s17.2.2 1 j42) v44 h45) (Nat.le_of_ble_eq_true rfl) (by decide) (by decide) dX4_against_122 ?_
                refine v_if_eq (pc := 125) (tgt := 132) K dX4_against_125 (by decide) (fun c46 => ?_) (fun c46 => ?_)
                · have h := it c46 h
                  refine v_ic0 (pc := 132) K dX4_against_132 ?_
                  cases h
                  exact hJ28
                · have h := ie c46 h
                  refine v_ic1 (pc := 128) K dX4_against_128 ?_
                  refine v_goto (pc := 129) (tgt := 133) K dX4_against_129 (by decide) ?_
                  cases h
                  exact hJ28
        · have h := it c16 h
          refine v_aload0 (pc := 49) K dX4_against_49 ?_
          refine v_ic2 (pc := 50) K dX4_against_50 ?_
          obtain ⟨v52, h53, h⟩ := bd h
          refine v_cV1I (pc := 51)  K ca_yX4_fails ml_RX4_105 (Nat.le_of_ble_eq_true rfl) rfl rfl (t_X4_fails _ K.nt K.ad (sI σ 0 0 (0 : Int32)) (2 : Int32) v52 h53) (Nat.le_of_ble_eq_true rfl) (by decide) (by decide) dX4_against_51 ?_
          cases h
          exact v_iret (pc := 54) K dX4_against_54 rfl rfl
      · have h := it c13 h
        refine v_aload0 (pc := 30) K dX4_against_30 ?_
        refine v_ic1 (pc := 31) K dX4_against_31 ?_
        obtain ⟨v54, h55, h⟩ := bd h
        refine v_cV1I (pc := 32)  K ca_yX4_fails ml_RX4_105 (Nat.le_of_ble_eq_true rfl) rfl rfl (t_X4_fails _ K.nt K.ad (sI σ 0 0 (0 : Int32)) (1 : Int32) v54 h55) (Nat.le_of_ble_eq_true rfl) (by decide) (by decide) dX4_against_32 ?_
        cases h
        exact v_iret (pc := 35) K dX4_against_35 rfl rfl
set_option maxRecDepth 100000 in
def m_X4_empty (σ : St) (a0 : Int32) (a1 : Int32) (a2 : Int32) : Option (Int32 × St) :=
  ((m_X4_isMask (sI σ 0 0 (0 : Int32)) a0).bind fun v1 => (if v1 = 0 then ((m_X4_fails (sI σ 0 0 (0 : Int32)) (1 : Int32)).bind fun v4 => some (v4.1, v4.2)) else ((m_X4_areIn (sI σ 0 0 (0 : Int32)) a1 a2).bind fun v6 => (if v6 = 0 then ((m_X4_fails (sI σ 0 0 (0 : Int32)) (1 : Int32)).bind fun v35 => some (v35.1, v35.2)) else ((lp 5000 (fun (s9 : Int32 × St) => (if (192 : Int32) ≤ s9.1 then some (.inr s9.2) else ((m_X4_at s9.2 a2 s9.1).bind fun v17 => ((ix v17 1536).bind fun j19 => ((if s9.2.1 4 j19 = 0 then some (0 : Int32) else ((m_X4_at s9.2 a1 s9.1).bind fun v25 => ((ix v25 1152).bind fun j27 => (if s9.2.1 2 j27 = 0 then some (1 : Int32) else some (0 : Int32))))).bind fun (t21 : Int32) => ((ix s9.1 192).bind fun j30 => some (.inl ((s9.1 + 1), (sI s9.2 5 j30 (nz t21)))))))))) ((0 : Int32), (sI σ 0 0 (0 : Int32)))).bind fun (r10 : St) => ((m_X4_becomes r10 a0).bind fun v32 => some (v32.1, v32.2)))))))
set_option maxHeartbeats 4000000 in
set_option maxRecDepth 100000 in
theorem t_X4_empty (l : Launch) (hnt : l.stackTraces = false) {E : Ev} {base : Nat} (hE : Adr YM E base) (σ : St) (a0 : Int32) (a1 : Int32) (a2 : Int32) (r : Int32 × St) (h : m_X4_empty σ a0 a1 a2 = some r) : Ctr l yX4_empty cX4_empty 5 (some .int) 3 68 YM E base [.ref (E.2.2 0), .int a0, .int a1, .int a2] σ (.ok (some (.int r.1))) r.2 := by
  unfold m_X4_empty at h
  refine ofV 1 (by decide +kernel) rfl hE hnt (Nat.le_of_ble_eq_true rfl) rfl (fun M hN K => ?_)
  refine v_aload0 (pc := 0) K dX4_empty_0 ?_
  refine v_ic0 (pc := 1) K dX4_empty_1 ?_
  refine v_put (pc := 2) K fw_RX4_69 dX4_empty_2 rfl rfl (Nat.le_of_ble_eq_true rfl) rfl rfl ?_
  refine v_iload1 (pc := 5) K dX4_empty_5 ?_
  obtain ⟨v1, h2, h⟩ := bd h
  refine v_cS1I (pc := 6)  K ca_yX4_isMask ml_RX4_91 (t_X4_isMask _ K.nt K.ad (sI σ 0 0 (0 : Int32)) a0 v1 h2) (Nat.le_of_ble_eq_true rfl) (by decide) (by decide) dX4_empty_6 ?_
  refine v_if_eq (pc := 9) (tgt := 21) K dX4_empty_9 (by decide) (fun c3 => ?_) (fun c3 => ?_)
  · have h := it c3 h
    refine v_aload0 (pc := 21) K dX4_empty_21 ?_
    refine v_ic1 (pc := 22) K dX4_empty_22 ?_
    obtain ⟨v4, h5, h⟩ := bd h
    refine v_cV1I (pc := 23)  K ca_yX4_fails ml_RX4_105 (Nat.le_of_ble_eq_true rfl) rfl rfl (t_X4_fails _ K.nt K.ad (sI σ 0 0 (0 : Int32)) (1 : Int32) v4 h5) (Nat.le_of_ble_eq_true rfl) (by decide) (by decide) dX4_empty_23 ?_
    cases h
    exact v_iret (pc := 26) K dX4_empty_26 rfl rfl
  · have h := ie c3 h
    refine v_aload0 (pc := 12) K dX4_empty_12 ?_
    refine v_iload2 (pc := 13) K dX4_empty_13 ?_
    refine v_iload3 (pc := 14) K dX4_empty_14 ?_
    obtain ⟨v6, h7, h⟩ := bd h
    refine v_cV2I (pc := 15)  K ca_yX4_areIn ml_RX4_164 (Nat.le_of_ble_eq_true rfl) rfl rfl (t_X4_areIn _ K.nt K.ad (sI σ 0 0 (0 : Int32)) a1 a2 v6 h7) (Nat.le_of_ble_eq_true rfl) (by decide) (by decide) dX4_empty_15 ?_
    refine v_if_ne (pc := 18) (tgt := 27) K dX4_empty_18 (by decide) (fun c8 => ?_) (fun c8 => ?_)
    · have h := ie c8 h
      refine v_ic0 (pc := 27) K dX4_empty_27 ?_
      refine v_istore4 (pc := 28) K dX4_empty_28 rfl (Nat.le_of_ble_eq_true rfl) ?_
      obtain ⟨r10, h12, h⟩ := bd h
      have hJ11 : V (mkX M YM E base 5 (.ok (some (.int r.1))) r.2) r10 84 [some (.ref (E.2.2 0)), some (.int a0), none, none, none] [] := by
        refine v_aload0 (pc := 84) K dX4_empty_84 ?_
        refine v_iload1 (pc := 85) K dX4_empty_85 ?_
        obtain ⟨v32, h33, h⟩ := bd h
        refine v_cV1I (pc := 86)  K ca_yX4_becomes ml_RX4_159 (Nat.le_of_ble_eq_true rfl) rfl rfl (t_X4_becomes _ K.nt K.ad r10 a0 v32 h33) (Nat.le_of_ble_eq_true rfl) (by decide) (by decide) dX4_empty_86 ?_
        cases h
        exact v_iret (pc := 89) K dX4_empty_89 rfl rfl
      clear h
      have hL34 := lpv h12 (fun s9 : Int32 × St => V (mkX M YM E base 5 (.ok (some (.int r.1))) r.2) s9.2 30 [some (.ref (E.2.2 0)), some (.int a0), some (.int a1), some (.int a2), some (.int s9.1)] [])
      refine hL34 (fun s9 o h hk => ?_)
      refine v_iload4 (pc := 30) K dX4_empty_30 ?_
      refine v_sipush (pc := 32) (v := 192) K dX4_empty_32 (by decide) ?_
      refine v_icmp_ge (pc := 35) (tgt := 84) K dX4_empty_35 (by decide) (fun c16 => ?_) (fun c16 => ?_)
      · have h := it c16 h
        have e := lx h hk
        cases e
        exact v_fg [true, true, false, false, false] hJ11
      · have h := ie c16 h
        refine v_aload0 (pc := 38) K dX4_empty_38 ?_
        refine v_getR (pc := 39) K fl_RX4_24 dX4_empty_39 (Nat.le_of_ble_eq_true rfl) rfl rfl ?_
        refine v_iload4 (pc := 42) K dX4_empty_42 ?_
        refine v_aload0 (pc := 44) K dX4_empty_44 ?_
        refine v_getR (pc := 45) K fl_RX4_21 dX4_empty_45 (Nat.le_of_ble_eq_true rfl) rfl rfl ?_
        refine v_iload3 (pc := 48) K dX4_empty_48 ?_
        refine v_iload4 (pc := 49) K dX4_empty_49 ?_
        obtain ⟨v17, h18, h⟩ := bd h
        refine v_cS2I (pc := 51)  K ca_yX4_at ml_RX4_94 (t_X4_at _ K.nt K.ad s9.2 a2 s9.1 v17 h18) (Nat.le_of_ble_eq_true rfl) (by decide) (by decide) dX4_empty_51 ?_
        obtain ⟨j19, h20, h⟩ := bd h
        refine v_zaload (pc := 54) K dX4_empty_54 (Nat.le_of_ble_eq_true rfl) rfl h20 ?_
        obtain ⟨t21, h23, h⟩ := bd h
        have hJ22 : V (mkX M YM E base 5 (.ok (some (.int r.1))) r.2) s9.2 77 [some (.ref (E.2.2 0)), some (.int a0), some (.int a1), some (.int a2), some (.int s9.1)] [.int t21, .int s9.1, .ref (E.2.2 5)] := by
          obtain ⟨j30, h31, h⟩ := bd h
          refine v_zastore (pc := 77) K dX4_empty_77 (Nat.le_of_ble_eq_true rfl) rfl h31 ?_
          refine v_iinc4 (pc := 78) (w := 1) K dX4_empty_78 rfl (Nat.le_of_ble_eq_true rfl) (by decide) ?_
          refine v_goto (pc := 81) (tgt := 30) K dX4_empty_81 (by decide) ?_
          have e := lfc h hk
          exact e
        clear h
        have h := h23
        refine v_if_eq (pc := 55) (tgt := 76) K dX4_empty_55 (by decide) (fun c24 => ?_) (fun c24 => ?_)
        · have h := it c24 h
          refine v_ic0 (pc := 76) K dX4_empty_76 ?_
          cases h
          exact hJ22
        · have h := ie c24 h
          refine v_aload0 (pc := 58) K dX4_empty_58 ?_
          refine v_getR (pc := 59) K fl_RX4_13 dX4_empty_59 (Nat.le_of_ble_eq_true rfl) rfl rfl ?_
          refine v_iload2 (pc := 62) K dX4_empty_62 ?_
          refine v_iload4 (pc := 63) K dX4_empty_63 ?_
          obtain ⟨v25, h26, h⟩ := bd h
          refine v_cS2I (pc := 65)  K ca_yX4_at ml_RX4_94 (t_X4_at _ K.nt K.ad s9.2 a1 s9.1 v25 h26) (Nat.le_of_ble_eq_true rfl) (by decide) (by decide) dX4_empty_65 ?_
          obtain ⟨j27, h28, h⟩ := bd h
          refine v_zaload (pc := 68) K dX4_empty_68 (Nat.le_of_ble_eq_true rfl) rfl h28 ?_
          refine v_if_ne (pc := 69) (tgt := 76) K dX4_empty_69 (by decide) (fun c29 => ?_) (fun c29 => ?_)
          · have h := ie c29 h
            refine v_ic0 (pc := 76) K dX4_empty_76 ?_
            cases h
            exact hJ22
          · have h := it c29 h
            refine v_ic1 (pc := 72) K dX4_empty_72 ?_
            refine v_goto (pc := 73) (tgt := 77) K dX4_empty_73 (by decide) ?_
            cases h
            exact hJ22
    · have h := it c8 h
      refine v_aload0 (pc := 21) K dX4_empty_21 ?_
      refine v_ic1 (pc := 22) K dX4_empty_22 ?_
      obtain ⟨v35, h36, h⟩ := bd h
      refine v_cV1I (pc := 23)  K ca_yX4_fails ml_RX4_105 (Nat.le_of_ble_eq_true rfl) rfl rfl (t_X4_fails _ K.nt K.ad (sI σ 0 0 (0 : Int32)) (1 : Int32) v35 h36) (Nat.le_of_ble_eq_true rfl) (by decide) (by decide) dX4_empty_23 ?_
      cases h
      exact v_iret (pc := 26) K dX4_empty_26 rfl rfl
set_option maxRecDepth 100000 in
def m_X4_laysNone (σ : St) : Option (St) :=
  ((lp 5000 (fun (s1 : Int32 × St) => (if (192 : Int32) ≤ s1.1 then some (.inr s1.2) else ((ix s1.1 192).bind fun j9 => some (.inl ((s1.1 + 1), (sI s1.2 5 j9 (nz (0 : Int32)))))))) ((0 : Int32), σ)).bind fun (r2 : St) => some r2)
set_option maxHeartbeats 4000000 in
set_option maxRecDepth 100000 in
theorem t_X4_laysNone (l : Launch) (hnt : l.stackTraces = false) {E : Ev} {base : Nat} (hE : Adr YM E base) (σ : St) (r : St) (h : m_X4_laysNone σ = some r) : Ctr l yX4_laysNone cX4_laysNone 2 none 0 0 YM E base [.ref (E.2.2 0)] σ (.ok none) r := by
  unfold m_X4_laysNone at h
  refine ofV 1 (by decide +kernel) rfl hE hnt (Nat.le_of_ble_eq_true rfl) rfl (fun M hN K => ?_)
  refine v_ic0 (pc := 0) K dX4_laysNone_0 ?_
  refine v_istore1 (pc := 1) K dX4_laysNone_1 rfl (Nat.le_of_ble_eq_true rfl) ?_
  obtain ⟨r2, h4, h⟩ := bd h
  have hJ3 : V (mkX M YM E base 2 (.ok none) r) r2 22 [none, none] [] := by
    cases h
    exact v_vret (pc := 22) K dX4_laysNone_22 rfl rfl
  clear h
  have hL11 := lpv h4 (fun s1 : Int32 × St => V (mkX M YM E base 2 (.ok none) r) s1.2 2 [some (.ref (E.2.2 0)), some (.int s1.1)] [])
  refine hL11 (fun s1 o h hk => ?_)
  refine v_iload1 (pc := 2) K dX4_laysNone_2 ?_
  refine v_sipush (pc := 3) (v := 192) K dX4_laysNone_3 (by decide) ?_
  refine v_icmp_ge (pc := 6) (tgt := 22) K dX4_laysNone_6 (by decide) (fun c8 => ?_) (fun c8 => ?_)
  · have h := it c8 h
    have e := lx h hk
    cases e
    exact v_fg [false, false] hJ3
  · have h := ie c8 h
    refine v_aload0 (pc := 9) K dX4_laysNone_9 ?_
    refine v_getR (pc := 10) K fl_RX4_24 dX4_laysNone_10 (Nat.le_of_ble_eq_true rfl) rfl rfl ?_
    refine v_iload1 (pc := 13) K dX4_laysNone_13 ?_
    refine v_ic0 (pc := 14) K dX4_laysNone_14 ?_
    obtain ⟨j9, h10, h⟩ := bd h
    refine v_zastore (pc := 15) K dX4_laysNone_15 (Nat.le_of_ble_eq_true rfl) rfl h10 ?_
    refine v_iinc1 (pc := 16) (w := 1) K dX4_laysNone_16 rfl (Nat.le_of_ble_eq_true rfl) (by decide) ?_
    refine v_goto (pc := 19) (tgt := 2) K dX4_laysNone_19 (by decide) ?_
    have e := lfc h hk
    exact e
set_option maxRecDepth 100000 in
def m_X4_aheadOf (σ : St) (a0 : Int32) (a1 : Int32) (a2 : Int32) : Option (Int32) :=
  ((lp 5000 (fun (s1 : Int32 × Int32) => (if σ.1 0 5 ≤ s1.2 then some (.inr s1.1) else ((m_X4_hasUnder σ a0 s1.2 a2).bind fun v9 => ((if v9 = 0 then some s1.1 else ((m_X4_at σ a0 s1.2).bind fun v15 => ((ix v15 1152).bind fun j17 => ((m_X4_at σ a0 a1).bind fun v19 => ((ix v19 1152).bind fun j21 => ((if σ.2 1 j21 < σ.2 1 j17 then some (1 : Int32) else ((m_X4_at σ a0 a1).bind fun v27 => ((ix v27 1152).bind fun j29 => (if σ.2 1 j17 = σ.2 1 j29 then (if a1 ≤ s1.2 then some (0 : Int32) else some (1 : Int32)) else some (0 : Int32))))).bind fun (t23 : Int32) => ((m_X4_flag σ t23).bind fun v33 => some (s1.1 + v33)))))))).bind fun (t11 : Int32) => some (.inl (t11, (s1.2 + 1))))))) ((0 : Int32), (0 : Int32))).bind fun (r2 : Int32) => some r2)
set_option maxHeartbeats 4000000 in
set_option maxRecDepth 100000 in
theorem t_X4_aheadOf (l : Launch) (hnt : l.stackTraces = false) {E : Ev} {base : Nat} (hE : Adr YM E base) (σ : St) (a0 : Int32) (a1 : Int32) (a2 : Int32) (r : Int32) (h : m_X4_aheadOf σ a0 a1 a2 = some r) : Ctr l yX4_aheadOf cX4_aheadOf 8 (some .int) 2 44 YM E base [.ref (E.2.2 0), .int a0, .int a1, .int a2] σ (.ok (some (.int r))) σ := by
  unfold m_X4_aheadOf at h
  refine ofV 4 (by decide +kernel) rfl hE hnt (Nat.le_of_ble_eq_true rfl) rfl (fun M hN K => ?_)
  refine v_ic0 (pc := 0) K dX4_aheadOf_0 ?_
  refine v_istore4 (pc := 1) K dX4_aheadOf_1 rfl (Nat.le_of_ble_eq_true rfl) ?_
  refine v_ic0 (pc := 3) K dX4_aheadOf_3 ?_
  refine v_istore5 (pc := 4) K dX4_aheadOf_4 rfl (Nat.le_of_ble_eq_true rfl) ?_
  obtain ⟨r2, h4, h⟩ := bd h
  have hJ3 : V (mkX M YM E base 8 (.ok (some (.int r))) σ) σ 99 [none, none, none, none, some (.int r2), none, none, none] [] := by
    refine v_iload4 (pc := 99) K dX4_aheadOf_99 ?_
    cases h
    exact v_iret (pc := 101) K dX4_aheadOf_101 rfl rfl
  clear h
  have hL35 := lpv h4 (fun s1 : Int32 × Int32 => V (mkX M YM E base 8 (.ok (some (.int r))) σ) σ 6 [some (.ref (E.2.2 0)), some (.int a0), some (.int a1), some (.int a2), some (.int s1.1), some (.int s1.2), none, none] [])
  refine hL35 (fun s1 o h hk => ?_)
  refine v_iload5 (pc := 6) K dX4_aheadOf_6 ?_
  refine v_aload0 (pc := 8) K dX4_aheadOf_8 ?_
  refine v_getI (pc := 9) K fl_RX4_80 dX4_aheadOf_9 (Nat.le_of_ble_eq_true rfl) rfl rfl ?_
  refine v_icmp_ge (pc := 12) (tgt := 99) K dX4_aheadOf_12 (by decide) (fun c8 => ?_) (fun c8 => ?_)
  · have h := it c8 h
    have e := lx h hk
    cases e
    exact v_fg [false, false, false, false, true, false, true, true] hJ3
  · have h := ie c8 h
    refine v_aload0 (pc := 15) K dX4_aheadOf_15 ?_
    refine v_iload1 (pc := 16) K dX4_aheadOf_16 ?_
    refine v_iload5 (pc := 17) K dX4_aheadOf_17 ?_
    refine v_iload3 (pc := 19) K dX4_aheadOf_19 ?_
    obtain ⟨v9, h10, h⟩ := bd h
    refine v_cV3I (pc := 20)  K ca_yX4_hasUnder ml_RX4_170 (Nat.le_of_ble_eq_true rfl) rfl rfl (t_X4_hasUnder _ K.nt K.ad σ a0 s1.2 a2 v9 h10) (Nat.le_of_ble_eq_true rfl) (by decide) (by decide) dX4_aheadOf_20 ?_
    obtain ⟨t11, h13, h⟩ := bd h
    have hJ12 : V (mkX M YM E base 8 (.ok (some (.int r))) σ) σ 93 [some (.ref (E.2.2 0)), some (.int a0), some (.int a1), some (.int a2), some (.int t11), some (.int s1.2), none, none] [] := by
      refine v_iinc5 (pc := 93) (w := 1) K dX4_aheadOf_93 rfl (Nat.le_of_ble_eq_true rfl) (by decide) ?_
      refine v_goto (pc := 96) (tgt := 6) K dX4_aheadOf_96 (by decide) ?_
      have e := lfc h hk
      exact e
    clear h
    have h := h13
    refine v_if_ne (pc := 23) (tgt := 29) K dX4_aheadOf_23 (by decide) (fun c14 => ?_) (fun c14 => ?_)
    · have h := ie c14 h
      refine v_aload0 (pc := 29) K dX4_aheadOf_29 ?_
      refine v_getR (pc := 30) K fl_RX4_7 dX4_aheadOf_30 (Nat.le_of_ble_eq_true rfl) rfl rfl ?_
      refine v_iload1 (pc := 33) K dX4_aheadOf_33 ?_
      refine v_iload5 (pc := 34) K dX4_aheadOf_34 ?_
      obtain ⟨v15, h16, h⟩ := bd h
      refine v_cS2I (pc := 36)  K ca_yX4_at ml_RX4_94 (t_X4_at _ K.nt K.ad σ a0 s1.2 v15 h16) (Nat.le_of_ble_eq_true rfl) (by decide) (by decide) dX4_aheadOf_36 ?_
      obtain ⟨j17, h18, h⟩ := bd h
      refine v_laload (pc := 39) K dX4_aheadOf_39 (Nat.le_of_ble_eq_true rfl) rfl h18 ?_
      refine v_lstore6 (pc := 40) K dX4_aheadOf_40 rfl (Nat.le_of_ble_eq_true rfl) ?_
      refine v_iload4 (pc := 42) K dX4_aheadOf_42 ?_
      refine v_lload6 (pc := 44) K dX4_aheadOf_44 ?_
      refine v_aload0 (pc := 46) K dX4_aheadOf_46 ?_
      refine v_getR (pc := 47) K fl_RX4_7 dX4_aheadOf_47 (Nat.le_of_ble_eq_true rfl) rfl rfl ?_
      refine v_iload1 (pc := 50) K dX4_aheadOf_50 ?_
      refine v_iload2 (pc := 51) K dX4_aheadOf_51 ?_
      obtain ⟨v19, h20, h⟩ := bd h
      refine v_cS2I (pc := 52)  K ca_yX4_at ml_RX4_94 (t_X4_at _ K.nt K.ad σ a0 a1 v19 h20) (Nat.le_of_ble_eq_true rfl) (by decide) (by decide) dX4_aheadOf_52 ?_
      obtain ⟨j21, h22, h⟩ := bd h
      refine v_laload (pc := 55) K dX4_aheadOf_55 (Nat.le_of_ble_eq_true rfl) rfl h22 ?_
      obtain ⟨t23, h25, h⟩ := bd h
      have hJ24 : V (mkX M YM E base 8 (.ok (some (.int r))) σ) σ 87 [some (.ref (E.2.2 0)), some (.int a0), some (.int a1), some (.int a2), none, some (.int s1.2), none, none] [.int t23, .int s1.1] := by
        obtain ⟨v33, h34, h⟩ := bd h
        refine v_cS1I (pc := 87)  K ca_yX4_flag ml_RX4_123 (t_X4_flag _ K.nt K.ad σ t23 v33 h34) (Nat.le_of_ble_eq_true rfl) (by decide) (by decide) dX4_aheadOf_87 ?_
        refine v_iadd (pc := 90) K dX4_aheadOf_90 ?_
        refine v_istore4 (pc := 91) K dX4_aheadOf_91 rfl (Nat.le_of_ble_eq_true rfl) ?_
        cases h
        exact hJ12
      clear h
      have h := h25
      refine v_lc_gt (pc := 56) (tgt := 82) K dX4_aheadOf_56 dX4_aheadOf_57 (by decide) (fun c26 => ?_) (fun c26 => ?_)
      · have h := it c26 h
        refine v_ic1 (pc := 82) K dX4_aheadOf_82 ?_
        refine v_goto (pc := 83) (tgt := 87) K dX4_aheadOf_83 (by decide) ?_
        cases h
        exact (v_fg [true, true, true, true, false, true, false, true] hJ24)
      · have h := ie c26 h
        refine v_lload6 (pc := 60) K dX4_aheadOf_60 ?_
        refine v_aload0 (pc := 62) K dX4_aheadOf_62 ?_
        refine v_getR (pc := 63) K fl_RX4_7 dX4_aheadOf_63 (Nat.le_of_ble_eq_true rfl) rfl rfl ?_
        refine v_iload1 (pc := 66) K dX4_aheadOf_66 ?_
        refine v_iload2 (pc := 67) K dX4_aheadOf_67 ?_
        obtain ⟨v27, h28, h⟩ := bd h
        refine v_cS2I (pc := 68)  K ca_yX4_at ml_RX4_94 (t_X4_at _ K.nt K.ad σ a0 a1 v27 h28) (Nat.le_of_ble_eq_true rfl) (by decide) (by decide) dX4_aheadOf_68 ?_
        obtain ⟨j29, h30, h⟩ := bd h
        refine v_laload (pc := 71) K dX4_aheadOf_71 (Nat.le_of_ble_eq_true rfl) rfl h30 ?_
        refine v_lc_ne (pc := 72) (tgt := 86) K dX4_aheadOf_72 dX4_aheadOf_73 (by decide) (fun c31 => ?_) (fun c31 => ?_)
        · have h := ie c31 h
          refine v_ic0 (pc := 86) K dX4_aheadOf_86 ?_
          cases h
          exact (v_fg [true, true, true, true, false, true, false, true] hJ24)
        · have h := it c31 h
          refine v_iload5 (pc := 76) K dX4_aheadOf_76 ?_
          refine v_iload2 (pc := 78) K dX4_aheadOf_78 ?_
          refine v_icmp_ge (pc := 79) (tgt := 86) K dX4_aheadOf_79 (by decide) (fun c32 => ?_) (fun c32 => ?_)
          · have h := it c32 h
            refine v_ic0 (pc := 86) K dX4_aheadOf_86 ?_
            cases h
            exact (v_fg [true, true, true, true, false, true, false, true] hJ24)
          · have h := ie c32 h
            refine v_ic1 (pc := 82) K dX4_aheadOf_82 ?_
            refine v_goto (pc := 83) (tgt := 87) K dX4_aheadOf_83 (by decide) ?_
            cases h
            exact (v_fg [true, true, true, true, false, true, false, true] hJ24)
    · have h := it c14 h
      refine v_goto (pc := 26) (tgt := 93) K dX4_aheadOf_26 (by decide) ?_
      cases h
      exact hJ12
set_option maxRecDepth 100000 in
def m_X4_top (σ : St) (a0 : Int32) (a1 : Int32) (a2 : Int32) (a3 : Int32) : Option (Int32 × St) :=
  ((m_X4_isMask (sI σ 0 0 (0 : Int32)) a0).bind fun v1 => (if v1 = 0 then ((m_X4_fails (sI σ 0 0 (0 : Int32)) (1 : Int32)).bind fun v4 => some (v4.1, v4.2)) else ((m_X4_areIn (sI σ 0 0 (0 : Int32)) a1 a2).bind fun v6 => (if v6 = 0 then ((m_X4_fails (sI σ 0 0 (0 : Int32)) (1 : Int32)).bind fun v36 => some (v36.1, v36.2)) else (if 0 ≤ a3 then ((m_X4_laysNone (sI σ 0 0 (0 : Int32))).bind fun v10 => ((lp 5000 (fun (s12 : Int32 × St) => (if s12.2.1 0 5 ≤ s12.1 then some (.inr s12.2) else ((m_X4_hasUnder s12.2 a1 s12.1 a2).bind fun v20 => ((if v20 = 0 then some (0 : Int32) else ((m_X4_aheadOf s12.2 a1 s12.1 a2).bind fun v26 => (if a3 ≤ v26 then some (0 : Int32) else some (1 : Int32)))).bind fun (t22 : Int32) => ((ix s12.1 192).bind fun j29 => some (.inl ((s12.1 + 1), (sI s12.2 5 j29 (nz t22))))))))) ((0 : Int32), v10)).bind fun (r13 : St) => ((m_X4_becomes r13 a0).bind fun v31 => some (v31.1, v31.2)))) else ((m_X4_fails (sI σ 0 0 (0 : Int32)) (2 : Int32)).bind fun v34 => some (v34.1, v34.2)))))))
set_option maxHeartbeats 4000000 in
set_option maxRecDepth 100000 in
theorem t_X4_top (l : Launch) (hnt : l.stackTraces = false) {E : Ev} {base : Nat} (hE : Adr YM E base) (σ : St) (a0 : Int32) (a1 : Int32) (a2 : Int32) (a3 : Int32) (r : Int32 × St) (h : m_X4_top σ a0 a1 a2 a3 = some r) : Ctr l yX4_top cX4_top 6 (some .int) 3 71 YM E base [.ref (E.2.2 0), .int a0, .int a1, .int a2, .int a3] σ (.ok (some (.int r.1))) r.2 := by
  unfold m_X4_top at h
  refine ofV 1 (by decide +kernel) rfl hE hnt (Nat.le_of_ble_eq_true rfl) rfl (fun M hN K => ?_)
  refine v_aload0 (pc := 0) K dX4_top_0 ?_
  refine v_ic0 (pc := 1) K dX4_top_1 ?_
  refine v_put (pc := 2) K fw_RX4_69 dX4_top_2 rfl rfl (Nat.le_of_ble_eq_true rfl) rfl rfl ?_
  refine v_iload1 (pc := 5) K dX4_top_5 ?_
  obtain ⟨v1, h2, h⟩ := bd h
  refine v_cS1I (pc := 6)  K ca_yX4_isMask ml_RX4_91 (t_X4_isMask _ K.nt K.ad (sI σ 0 0 (0 : Int32)) a0 v1 h2) (Nat.le_of_ble_eq_true rfl) (by decide) (by decide) dX4_top_6 ?_
  refine v_if_eq (pc := 9) (tgt := 21) K dX4_top_9 (by decide) (fun c3 => ?_) (fun c3 => ?_)
  · have h := it c3 h
    refine v_aload0 (pc := 21) K dX4_top_21 ?_
    refine v_ic1 (pc := 22) K dX4_top_22 ?_
    obtain ⟨v4, h5, h⟩ := bd h
    refine v_cV1I (pc := 23)  K ca_yX4_fails ml_RX4_105 (Nat.le_of_ble_eq_true rfl) rfl rfl (t_X4_fails _ K.nt K.ad (sI σ 0 0 (0 : Int32)) (1 : Int32) v4 h5) (Nat.le_of_ble_eq_true rfl) (by decide) (by decide) dX4_top_23 ?_
    cases h
    exact v_iret (pc := 26) K dX4_top_26 rfl rfl
  · have h := ie c3 h
    refine v_aload0 (pc := 12) K dX4_top_12 ?_
    refine v_iload2 (pc := 13) K dX4_top_13 ?_
    refine v_iload3 (pc := 14) K dX4_top_14 ?_
    obtain ⟨v6, h7, h⟩ := bd h
    refine v_cV2I (pc := 15)  K ca_yX4_areIn ml_RX4_164 (Nat.le_of_ble_eq_true rfl) rfl rfl (t_X4_areIn _ K.nt K.ad (sI σ 0 0 (0 : Int32)) a1 a2 v6 h7) (Nat.le_of_ble_eq_true rfl) (by decide) (by decide) dX4_top_15 ?_
    refine v_if_ne (pc := 18) (tgt := 27) K dX4_top_18 (by decide) (fun c8 => ?_) (fun c8 => ?_)
    · have h := ie c8 h
      refine v_iload4 (pc := 27) K dX4_top_27 ?_
      refine v_if_ge (pc := 29) (tgt := 38) K dX4_top_29 (by decide) (fun c9 => ?_) (fun c9 => ?_)
      · have h := it c9 h
        refine v_aload0 (pc := 38) K dX4_top_38 ?_
        obtain ⟨v10, h11, h⟩ := bd h
        refine v_cV0U (pc := 39)  K ca_yX4_laysNone ml_RX4_177 (Nat.le_of_ble_eq_true rfl) rfl rfl (t_X4_laysNone _ K.nt K.ad (sI σ 0 0 (0 : Int32)) v10 h11) (Nat.le_of_ble_eq_true rfl) (by decide) (by decide) dX4_top_39 ?_
        refine v_ic0 (pc := 42) K dX4_top_42 ?_
        refine v_istore5 (pc := 43) K dX4_top_43 rfl (Nat.le_of_ble_eq_true rfl) ?_
        obtain ⟨r13, h15, h⟩ := bd h
        have hJ14 : V (mkX M YM E base 6 (.ok (some (.int r.1))) r.2) r13 96 [some (.ref (E.2.2 0)), some (.int a0), none, none, none, none] [] := by
          refine v_aload0 (pc := 96) K dX4_top_96 ?_
          refine v_iload1 (pc := 97) K dX4_top_97 ?_
          obtain ⟨v31, h32, h⟩ := bd h
          refine v_cV1I (pc := 98)  K ca_yX4_becomes ml_RX4_159 (Nat.le_of_ble_eq_true rfl) rfl rfl (t_X4_becomes _ K.nt K.ad r13 a0 v31 h32) (Nat.le_of_ble_eq_true rfl) (by decide) (by decide) dX4_top_98 ?_
          cases h
          exact v_iret (pc := 101) K dX4_top_101 rfl rfl
        clear h
        have hL33 := lpv h15 (fun s12 : Int32 × St => V (mkX M YM E base 6 (.ok (some (.int r.1))) r.2) s12.2 45 [some (.ref (E.2.2 0)), some (.int a0), some (.int a1), some (.int a2), some (.int a3), some (.int s12.1)] [])
        refine hL33 (fun s12 o h hk => ?_)
        refine v_iload5 (pc := 45) K dX4_top_45 ?_
        refine v_aload0 (pc := 47) K dX4_top_47 ?_
        refine v_getI (pc := 48) K fl_RX4_80 dX4_top_48 (Nat.le_of_ble_eq_true rfl) rfl rfl ?_
        refine v_icmp_ge (pc := 51) (tgt := 96) K dX4_top_51 (by decide) (fun c19 => ?_) (fun c19 => ?_)
        · have h := it c19 h
          have e := lx h hk
          cases e
          exact v_fg [true, true, false, false, false, false] hJ14
        · have h := ie c19 h
          refine v_aload0 (pc := 54) K dX4_top_54 ?_
          refine v_getR (pc := 55) K fl_RX4_24 dX4_top_55 (Nat.le_of_ble_eq_true rfl) rfl rfl ?_
          refine v_iload5 (pc := 58) K dX4_top_58 ?_
          refine v_aload0 (pc := 60) K dX4_top_60 ?_
          refine v_iload2 (pc := 61) K dX4_top_61 ?_
          refine v_iload5 (pc := 62) K dX4_top_62 ?_
          refine v_iload3 (pc := 64) K dX4_top_64 ?_
          obtain ⟨v20, h21, h⟩ := bd h
          refine v_cV3I (pc := 65)  K ca_yX4_hasUnder ml_RX4_170 (Nat.le_of_ble_eq_true rfl) rfl rfl (t_X4_hasUnder _ K.nt K.ad s12.2 a1 s12.1 a2 v20 h21) (Nat.le_of_ble_eq_true rfl) (by decide) (by decide) dX4_top_65 ?_
          obtain ⟨t22, h24, h⟩ := bd h
          have hJ23 : V (mkX M YM E base 6 (.ok (some (.int r.1))) r.2) s12.2 89 [some (.ref (E.2.2 0)), some (.int a0), some (.int a1), some (.int a2), some (.int a3), some (.int s12.1)] [.int t22, .int s12.1, .ref (E.2.2 5)] := by
            obtain ⟨j29, h30, h⟩ := bd h
            refine v_zastore (pc := 89) K dX4_top_89 (Nat.le_of_ble_eq_true rfl) rfl h30 ?_
            refine v_iinc5 (pc := 90) (w := 1) K dX4_top_90 rfl (Nat.le_of_ble_eq_true rfl) (by decide) ?_
            refine v_goto (pc := 93) (tgt := 45) K dX4_top_93 (by decide) ?_
            have e := lfc h hk
            exact e
          clear h
          have h := h24
          refine v_if_eq (pc := 68) (tgt := 88) K dX4_top_68 (by decide) (fun c25 => ?_) (fun c25 => ?_)
          · have h := it c25 h
            refine v_ic0 (pc := 88) K dX4_top_88 ?_
            cases h
            exact hJ23
          · have h := ie c25 h
            refine v_aload0 (pc := 71) K dX4_top_71 ?_
            refine v_iload2 (pc := 72) K dX4_top_72 ?_
            refine v_iload5 (pc := 73) K dX4_top_73 ?_
            refine v_iload3 (pc := 75) K dX4_top_75 ?_
            obtain ⟨v26, h27, h⟩ := bd h
            refine v_cV3I (pc := 76)  K ca_yX4_aheadOf ml_RX4_180 (Nat.le_of_ble_eq_true rfl) rfl rfl (t_X4_aheadOf _ K.nt K.ad s12.2 a1 s12.1 a2 v26 h27) (Nat.le_of_ble_eq_true rfl) (by decide) (by decide) dX4_top_76 ?_
            refine v_iload4 (pc := 79) K dX4_top_79 ?_
            refine v_icmp_ge (pc := 81) (tgt := 88) K dX4_top_81 (by decide) (fun c28 => ?_) (fun c28 => ?_)
            · have h := it c28 h
              refine v_ic0 (pc := 88) K dX4_top_88 ?_
              cases h
              exact hJ23
            · have h := ie c28 h
              refine v_ic1 (pc := 84) K dX4_top_84 ?_
              refine v_goto (pc := 85) (tgt := 89) K dX4_top_85 (by decide) ?_
              cases h
              exact hJ23
      · have h := ie c9 h
        refine v_aload0 (pc := 32) K dX4_top_32 ?_
        refine v_ic2 (pc := 33) K dX4_top_33 ?_
        obtain ⟨v34, h35, h⟩ := bd h
        refine v_cV1I (pc := 34)  K ca_yX4_fails ml_RX4_105 (Nat.le_of_ble_eq_true rfl) rfl rfl (t_X4_fails _ K.nt K.ad (sI σ 0 0 (0 : Int32)) (2 : Int32) v34 h35) (Nat.le_of_ble_eq_true rfl) (by decide) (by decide) dX4_top_34 ?_
        cases h
        exact v_iret (pc := 37) K dX4_top_37 rfl rfl
    · have h := it c8 h
      refine v_aload0 (pc := 21) K dX4_top_21 ?_
      refine v_ic1 (pc := 22) K dX4_top_22 ?_
      obtain ⟨v36, h37, h⟩ := bd h
      refine v_cV1I (pc := 23)  K ca_yX4_fails ml_RX4_105 (Nat.le_of_ble_eq_true rfl) rfl rfl (t_X4_fails _ K.nt K.ad (sI σ 0 0 (0 : Int32)) (1 : Int32) v36 h37) (Nat.le_of_ble_eq_true rfl) (by decide) (by decide) dX4_top_23 ?_
      cases h
      exact v_iret (pc := 26) K dX4_top_26 rfl rfl
set_option maxRecDepth 100000 in
def m_X4_field (σ : St) (a0 : Int32) (a1 : Int32) (a2 : Int32) (a3 : Int32) (a4 : Int32) (a5 : Int32) : Option (Int32 × St) :=
  ((m_X4_isMask (sI σ 0 0 (0 : Int32)) a0).bind fun v1 => (if v1 = 0 then ((m_X4_fails (sI σ 0 0 (0 : Int32)) (1 : Int32)).bind fun v4 => some (v4.1, v4.2)) else ((m_X4_areIn (sI σ 0 0 (0 : Int32)) a1 a5).bind fun v6 => (if v6 = 0 then ((m_X4_fails (sI σ 0 0 (0 : Int32)) (1 : Int32)).bind fun v9 => some (v9.1, v9.2)) else ((ix a1 6).bind fun j11 => ((m_X4_isIn (sI σ 0 0 (0 : Int32)) ((a2).toInt64) (0 : Int64) ((((sI σ 0 0 (0 : Int32)).1 3 j11 - (1 : Int32))).toInt64)).bind fun v13 => (if v13 = 0 then ((m_X4_fails (sI σ 0 0 (0 : Int32)) (1 : Int32)).bind fun v55 => some (v55.1, v55.2)) else ((m_X4_isIn (sI σ 0 0 (0 : Int32)) ((a3).toInt64) (1 : Int64) (16 : Int64)).bind fun v16 => (if v16 = 0 then ((m_X4_fails (sI σ 0 0 (0 : Int32)) (2 : Int32)).bind fun v19 => some (v19.1, v19.2)) else ((ix a1 6).bind fun j21 => (if (sI σ 0 0 (0 : Int32)).1 3 j21 < (a2 + a3) then ((m_X4_fails (sI σ 0 0 (0 : Int32)) (2 : Int32)).bind fun v24 => some (v24.1, v24.2)) else ((m_X4_isIn (sI σ 0 0 (0 : Int32)) ((a4).toInt64) (0 : Int64) (((((1 : Int32) <<< (a3 &&& 31)) - (1 : Int32))).toInt64)).bind fun v26 => (if v26 = 0 then ((m_X4_fails (sI σ 0 0 (0 : Int32)) (2 : Int32)).bind fun v53 => some (v53.1, v53.2)) else ((lp 5000 (fun (s29 : Int32 × St) => (if (192 : Int32) ≤ s29.1 then some (.inr s29.2) else ((m_X4_hasUnder s29.2 a1 s29.1 a5).bind fun v37 => ((if v37 = 0 then some (0 : Int32) else ((m_X4_at s29.2 a1 s29.1).bind fun v43 => ((ix v43 1152).bind fun j45 => (if ((s29.2.2 1 j45 >>> ((a2).toInt64 &&& 63)) &&& (((1 : Int64) <<< ((a3).toInt64 &&& 63)) - (1 : Int64))) = (a4).toInt64 then some (1 : Int32) else some (0 : Int32))))).bind fun (t39 : Int32) => ((ix s29.1 192).bind fun j48 => some (.inl ((s29.1 + 1), (sI s29.2 5 j48 (nz t39))))))))) ((0 : Int32), (sI σ 0 0 (0 : Int32)))).bind fun (r30 : St) => ((m_X4_becomes r30 a0).bind fun v50 => some (v50.1, v50.2))))))))))))))))
set_option maxHeartbeats 4000000 in
set_option maxRecDepth 100000 in
theorem t_X4_field (l : Launch) (hnt : l.stackTraces = false) {E : Ev} {base : Nat} (hE : Adr YM E base) (σ : St) (a0 : Int32) (a1 : Int32) (a2 : Int32) (a3 : Int32) (a4 : Int32) (a5 : Int32) (r : Int32 × St) (h : m_X4_field σ a0 a1 a2 a3 a4 a5 = some r) : Ctr l yX4_field cX4_field 8 (some .int) 3 68 YM E base [.ref (E.2.2 0), .int a0, .int a1, .int a2, .int a3, .int a4, .int a5] σ (.ok (some (.int r.1))) r.2 := by
  unfold m_X4_field at h
  refine ofV 1 (by decide +kernel) rfl hE hnt (Nat.le_of_ble_eq_true rfl) rfl (fun M hN K => ?_)
  refine v_aload0 (pc := 0) K dX4_field_0 ?_
  refine v_ic0 (pc := 1) K dX4_field_1 ?_
  refine v_put (pc := 2) K fw_RX4_69 dX4_field_2 rfl rfl (Nat.le_of_ble_eq_true rfl) rfl rfl ?_
  refine v_iload1 (pc := 5) K dX4_field_5 ?_
  obtain ⟨v1, h2, h⟩ := bd h
  refine v_cS1I (pc := 6)  K ca_yX4_isMask ml_RX4_91 (t_X4_isMask _ K.nt K.ad (sI σ 0 0 (0 : Int32)) a0 v1 h2) (Nat.le_of_ble_eq_true rfl) (by decide) (by decide) dX4_field_6 ?_
  refine v_if_eq (pc := 9) (tgt := 40) K dX4_field_9 (by decide) (fun c3 => ?_) (fun c3 => ?_)
  · have h := it c3 h
    refine v_aload0 (pc := 40) K dX4_field_40 ?_
    refine v_ic1 (pc := 41) K dX4_field_41 ?_
    obtain ⟨v4, h5, h⟩ := bd h
    refine v_cV1I (pc := 42)  K ca_yX4_fails ml_RX4_105 (Nat.le_of_ble_eq_true rfl) rfl rfl (t_X4_fails _ K.nt K.ad (sI σ 0 0 (0 : Int32)) (1 : Int32) v4 h5) (Nat.le_of_ble_eq_true rfl) (by decide) (by decide) dX4_field_42 ?_
    cases h
    exact v_iret (pc := 45) K dX4_field_45 rfl rfl
  · have h := ie c3 h
    refine v_aload0 (pc := 12) K dX4_field_12 ?_
    refine v_iload2 (pc := 13) K dX4_field_13 ?_
    refine v_iload6 (pc := 14) K dX4_field_14 ?_
    obtain ⟨v6, h7, h⟩ := bd h
    refine v_cV2I (pc := 16)  K ca_yX4_areIn ml_RX4_164 (Nat.le_of_ble_eq_true rfl) rfl rfl (t_X4_areIn _ K.nt K.ad (sI σ 0 0 (0 : Int32)) a1 a5 v6 h7) (Nat.le_of_ble_eq_true rfl) (by decide) (by decide) dX4_field_16 ?_
    refine v_if_eq (pc := 19) (tgt := 40) K dX4_field_19 (by decide) (fun c8 => ?_) (fun c8 => ?_)
    · have h := it c8 h
      refine v_aload0 (pc := 40) K dX4_field_40 ?_
      refine v_ic1 (pc := 41) K dX4_field_41 ?_
      obtain ⟨v9, h10, h⟩ := bd h
      refine v_cV1I (pc := 42)  K ca_yX4_fails ml_RX4_105 (Nat.le_of_ble_eq_true rfl) rfl rfl (t_X4_fails _ K.nt K.ad (sI σ 0 0 (0 : Int32)) (1 : Int32) v9 h10) (Nat.le_of_ble_eq_true rfl) (by decide) (by decide) dX4_field_42 ?_
      cases h
      exact v_iret (pc := 45) K dX4_field_45 rfl rfl
    · have h := ie c8 h
      refine v_iload3 (pc := 22) K dX4_field_22 ?_
      refine v_i2l (pc := 23) K dX4_field_23 ?_
      refine v_lc0 (pc := 24) K dX4_field_24 ?_
      refine v_aload0 (pc := 25) K dX4_field_25 ?_
      refine v_getR (pc := 26) K fl_RX4_17 dX4_field_26 (Nat.le_of_ble_eq_true rfl) rfl rfl ?_
      refine v_iload2 (pc := 29) K dX4_field_29 ?_
      obtain ⟨j11, h12, h⟩ := bd h
      refine v_iaload (pc := 30) K dX4_field_30 (Nat.le_of_ble_eq_true rfl) rfl h12 ?_
      refine v_ic1 (pc := 31) K dX4_field_31 ?_
      refine v_isub (pc := 32) K dX4_field_32 ?_
      refine v_i2l (pc := 33) K dX4_field_33 ?_
      obtain ⟨v13, h14, h⟩ := bd h
      refine v_cS3I (pc := 34)  K ca_yX4_isIn ml_RX4_76 (t_X4_isIn _ K.nt K.ad (sI σ 0 0 (0 : Int32)) ((a2).toInt64) (0 : Int64) ((((sI σ 0 0 (0 : Int32)).1 3 j11 - (1 : Int32))).toInt64) v13 h14) (Nat.le_of_ble_eq_true rfl) (by decide) (by decide) dX4_field_34 ?_
      refine v_if_ne (pc := 37) (tgt := 46) K dX4_field_37 (by decide) (fun c15 => ?_) (fun c15 => ?_)
      · have h := ie c15 h
        refine v_iload4 (pc := 46) K dX4_field_46 ?_
        refine v_i2l (pc := 48) K dX4_field_48 ?_
        refine v_lc1 (pc := 49) K dX4_field_49 ?_
        refine v_ldc2 (pc := 50) K dX4_field_50 cl_RX4_184 ?_
        obtain ⟨v16, h17, h⟩ := bd h
        refine v_cS3I (pc := 53)  K ca_yX4_isIn ml_RX4_76 (t_X4_isIn _ K.nt K.ad (sI σ 0 0 (0 : Int32)) ((a3).toInt64) (1 : Int64) (16 : Int64) v16 h17) (Nat.le_of_ble_eq_true rfl) (by decide) (by decide) dX4_field_53 ?_
        refine v_if_eq (pc := 56) (tgt := 89) K dX4_field_56 (by decide) (fun c18 => ?_) (fun c18 => ?_)
        · have h := it c18 h
          refine v_aload0 (pc := 89) K dX4_field_89 ?_
          refine v_ic2 (pc := 90) K dX4_field_90 ?_
          obtain ⟨v19, h20, h⟩ := bd h
          refine v_cV1I (pc := 91)  K ca_yX4_fails ml_RX4_105 (Nat.le_of_ble_eq_true rfl) rfl rfl (t_X4_fails _ K.nt K.ad (sI σ 0 0 (0 : Int32)) (2 : Int32) v19 h20) (Nat.le_of_ble_eq_true rfl) (by decide) (by decide) dX4_field_91 ?_
          cases h
          exact v_iret (pc := 94) K dX4_field_94 rfl rfl
        · have h := ie c18 h
          refine v_iload3 (pc := 59) K dX4_field_59 ?_
          refine v_iload4 (pc := 60) K dX4_field_60 ?_
          refine v_iadd (pc := 62) K dX4_field_62 ?_
          refine v_aload0 (pc := 63) K dX4_field_63 ?_
          refine v_getR (pc := 64) K fl_RX4_17 dX4_field_64 (Nat.le_of_ble_eq_true rfl) rfl rfl ?_
          refine v_iload2 (pc := 67) K dX4_field_67 ?_
          obtain ⟨j21, h22, h⟩ := bd h
          refine v_iaload (pc := 68) K dX4_field_68 (Nat.le_of_ble_eq_true rfl) rfl h22 ?_
          refine v_icmp_gt (pc := 69) (tgt := 89) K dX4_field_69 (by decide) (fun c23 => ?_) (fun c23 => ?_)
          · have h := it c23 h
            refine v_aload0 (pc := 89) K dX4_field_89 ?_
            refine v_ic2 (pc := 90) K dX4_field_90 ?_
            obtain ⟨v24, h25, h⟩ := bd h
            refine v_cV1I (pc := 91)  K ca_yX4_fails ml_RX4_105 (Nat.le_of_ble_eq_true rfl) rfl rfl (t_X4_fails _ K.nt K.ad (sI σ 0 0 (0 : Int32)) (2 : Int32) v24 h25) (Nat.le_of_ble_eq_true rfl) (by decide) (by decide) dX4_field_91 ?_
            cases h
            exact v_iret (pc := 94) K dX4_field_94 rfl rfl
          · have h := ie c23 h
            refine v_iload5 (pc := 72) K dX4_field_72 ?_
            refine v_i2l (pc := 74) K dX4_field_74 ?_
            refine v_lc0 (pc := 75) K dX4_field_75 ?_
            refine v_ic1 (pc := 76) K dX4_field_76 ?_
            refine v_iload4 (pc := 77) K dX4_field_77 ?_
            refine v_ishl (pc := 79) K dX4_field_79 ?_
            refine v_ic1 (pc := 80) K dX4_field_80 ?_
            refine v_isub (pc := 81) K dX4_field_81 ?_
            refine v_i2l (pc := 82) K dX4_field_82 ?_
            obtain ⟨v26, h27, h⟩ := bd h
            refine v_cS3I (pc := 83)  K ca_yX4_isIn ml_RX4_76 (t_X4_isIn _ K.nt K.ad (sI σ 0 0 (0 : Int32)) ((a4).toInt64) (0 : Int64) (((((1 : Int32) <<< (a3 &&& 31)) - (1 : Int32))).toInt64) v26 h27) (Nat.le_of_ble_eq_true rfl) (by decide) (by decide) dX4_field_83 ?_
            refine v_if_ne (pc := 86) (tgt := 95) K dX4_field_86 (by decide) (fun c28 => ?_) (fun c28 => ?_)
            · have h := ie c28 h
              refine v_ic0 (pc := 95) K dX4_field_95 ?_
              refine v_istore7 (pc := 96) K dX4_field_96 rfl (Nat.le_of_ble_eq_true rfl) ?_
              obtain ⟨r30, h32, h⟩ := bd h
              have hJ31 : V (mkX M YM E base 8 (.ok (some (.int r.1))) r.2) r30 163 [some (.ref (E.2.2 0)), some (.int a0), none, none, none, none, none, none] [] := by
                refine v_aload0 (pc := 163) K dX4_field_163 ?_
                refine v_iload1 (pc := 164) K dX4_field_164 ?_
                obtain ⟨v50, h51, h⟩ := bd h
                refine v_cV1I (pc := 165)  K ca_yX4_becomes ml_RX4_159 (Nat.le_of_ble_eq_true rfl) rfl rfl (t_X4_becomes _ K.nt K.ad r30 a0 v50 h51) (Nat.le_of_ble_eq_true rfl) (by decide) (by decide) dX4_field_165 ?_
                cases h
                exact v_iret (pc := 168) K dX4_field_168 rfl rfl
              clear h
              have hL52 := lpv h32 (fun s29 : Int32 × St => V (mkX M YM E base 8 (.ok (some (.int r.1))) r.2) s29.2 98 [some (.ref (E.2.2 0)), some (.int a0), some (.int a1), some (.int a2), some (.int a3), some (.int a4), some (.int a5), some (.int s29.1)] [])
              refine hL52 (fun s29 o h hk => ?_)
              refine v_iload7 (pc := 98) K dX4_field_98 ?_
              refine v_sipush (pc := 100) (v := 192) K dX4_field_100 (by decide) ?_
              refine v_icmp_ge (pc := 103) (tgt := 163) K dX4_field_103 (by decide) (fun c36 => ?_) (fun c36 => ?_)
              · have h := it c36 h
                have e := lx h hk
                cases e
                exact v_fg [true, true, false, false, false, false, false, false] hJ31
              · have h := ie c36 h
                refine v_aload0 (pc := 106) K dX4_field_106 ?_
                refine v_getR (pc := 107) K fl_RX4_24 dX4_field_107 (Nat.le_of_ble_eq_true rfl) rfl rfl ?_
                refine v_iload7 (pc := 110) K dX4_field_110 ?_
                refine v_aload0 (pc := 112) K dX4_field_112 ?_
                refine v_iload2 (pc := 113) K dX4_field_113 ?_
                refine v_iload7 (pc := 114) K dX4_field_114 ?_
                refine v_iload6 (pc := 116) K dX4_field_116 ?_
                obtain ⟨v37, h38, h⟩ := bd h
                refine v_cV3I (pc := 118)  K ca_yX4_hasUnder ml_RX4_170 (Nat.le_of_ble_eq_true rfl) rfl rfl (t_X4_hasUnder _ K.nt K.ad s29.2 a1 s29.1 a5 v37 h38) (Nat.le_of_ble_eq_true rfl) (by decide) (by decide) dX4_field_118 ?_
                obtain ⟨t39, h41, h⟩ := bd h
                have hJ40 : V (mkX M YM E base 8 (.ok (some (.int r.1))) r.2) s29.2 156 [some (.ref (E.2.2 0)), some (.int a0), some (.int a1), some (.int a2), some (.int a3), some (.int a4), some (.int a5), some (.int s29.1)] [.int t39, .int s29.1, .ref (E.2.2 5)] := by
                  obtain ⟨j48, h49, h⟩ := bd h
                  refine v_zastore (pc := 156) K dX4_field_156 (Nat.le_of_ble_eq_true rfl) rfl h49 ?_
                  refine v_iinc7 (pc := 157) (w := 1) K dX4_field_157 rfl (Nat.le_of_ble_eq_true rfl) (by decide) ?_
                  refine v_goto (pc := 160) (tgt := 98) K dX4_field_160 (by decide) ?_
                  have e := lfc h hk
                  exact e
                clear h
                have h := h41
                refine v_if_eq (pc := 121) (tgt := 155) K dX4_field_121 (by decide) (fun c42 => ?_) (fun c42 => ?_)
                · have h := it c42 h
                  refine v_ic0 (pc := 155) K dX4_field_155 ?_
                  cases h
                  exact hJ40
                · have h := ie c42 h
                  refine v_aload0 (pc := 124) K dX4_field_124 ?_
                  refine v_getR (pc := 125) K fl_RX4_7 dX4_field_125 (Nat.le_of_ble_eq_true rfl) rfl rfl ?_
                  refine v_iload2 (pc := 128) K dX4_field_128 ?_
                  refine v_iload7 (pc := 129) K dX4_field_129 ?_
                  obtain ⟨v43, h44, h⟩ := bd h
                  refine v_cS2I (pc := 131)  K ca_yX4_at ml_RX4_94 (t_X4_at _ K.nt K.ad s29.2 a1 s29.1 v43 h44) (Nat.le_of_ble_eq_true rfl) (by decide) (by decide) dX4_field_131 ?_
                  obtain ⟨j45, h46, h⟩ := bd h
                  refine v_laload (pc := 134) K dX4_field_134 (Nat.le_of_ble_eq_true rfl) rfl h46 ?_
                  refine v_iload3 (pc := 135) K dX4_field_135 ?_
                  refine v_lshr (pc := 136) K dX4_field_136 ?_
                  refine v_lc1 (pc := 137) K dX4_field_137 ?_
                  refine v_iload4 (pc := 138) K dX4_field_138 ?_
                  refine v_lshl (pc := 140) K dX4_field_140 ?_
                  refine v_lc1 (pc := 141) K dX4_field_141 ?_
                  refine v_lsub (pc := 142) K dX4_field_142 ?_
                  refine v_land (pc := 143) K dX4_field_143 ?_
                  refine v_iload5 (pc := 144) K dX4_field_144 ?_
                  refine v_i2l (pc := 146) K dX4_field_146 ?_
                  refine v_lc_ne (pc := 147) (tgt := 155) K dX4_field_147 dX4_field_148 (by decide) (fun c47 => ?_) (fun c47 => ?_)
                  · have h := ie c47 h
                    refine v_ic0 (pc := 155) K dX4_field_155 ?_
                    cases h
                    exact hJ40
                  · have h := it c47 h
                    refine v_ic1 (pc := 151) K dX4_field_151 ?_
                    refine v_goto (pc := 152) (tgt := 156) K dX4_field_152 (by decide) ?_
                    cases h
                    exact hJ40
            · have h := it c28 h
              refine v_aload0 (pc := 89) K dX4_field_89 ?_
              refine v_ic2 (pc := 90) K dX4_field_90 ?_
              obtain ⟨v53, h54, h⟩ := bd h
              refine v_cV1I (pc := 91)  K ca_yX4_fails ml_RX4_105 (Nat.le_of_ble_eq_true rfl) rfl rfl (t_X4_fails _ K.nt K.ad (sI σ 0 0 (0 : Int32)) (2 : Int32) v53 h54) (Nat.le_of_ble_eq_true rfl) (by decide) (by decide) dX4_field_91 ?_
              cases h
              exact v_iret (pc := 94) K dX4_field_94 rfl rfl
      · have h := it c15 h
        refine v_aload0 (pc := 40) K dX4_field_40 ?_
        refine v_ic1 (pc := 41) K dX4_field_41 ?_
        obtain ⟨v55, h56, h⟩ := bd h
        refine v_cV1I (pc := 42)  K ca_yX4_fails ml_RX4_105 (Nat.le_of_ble_eq_true rfl) rfl rfl (t_X4_fails _ K.nt K.ad (sI σ 0 0 (0 : Int32)) (1 : Int32) v55 h56) (Nat.le_of_ble_eq_true rfl) (by decide) (by decide) dX4_field_42 ?_
        cases h
        exact v_iret (pc := 45) K dX4_field_45 rfl rfl
set_option maxRecDepth 100000 in
def m_X4_move (σ : St) (a0 : Int32) (a1 : Int32) (a2 : Int32) : Option (Int32 × St) :=
  ((m_X4_isMask (sI σ 0 0 (0 : Int32)) a0).bind fun v1 => (if v1 = 0 then ((m_X4_fails (sI σ 0 0 (0 : Int32)) (1 : Int32)).bind fun v4 => some (v4.1, v4.2)) else ((m_X4_isMask (sI σ 0 0 (0 : Int32)) a1).bind fun v6 => (if v6 = 0 then ((m_X4_fails (sI σ 0 0 (0 : Int32)) (1 : Int32)).bind fun v38 => some (v38.1, v38.2)) else ((m_X4_isIn (sI σ 0 0 (0 : Int32)) ((a2).toInt64) ((-192) : Int64) (192 : Int64)).bind fun v9 => (if v9 = 0 then ((m_X4_fails (sI σ 0 0 (0 : Int32)) (2 : Int32)).bind fun v36 => some (v36.1, v36.2)) else ((lp 5000 (fun (s12 : Int32 × St) => (if (192 : Int32) ≤ s12.1 then some (.inr s12.2) else ((m_X4_isRow s12.2 (s12.1 - a2)).bind fun v20 => ((if v20 = 0 then some (0 : Int32) else ((m_X4_at s12.2 a1 (s12.1 - a2)).bind fun v26 => ((ix v26 1536).bind fun j28 => (if s12.2.1 4 j28 = 0 then some (0 : Int32) else some (1 : Int32))))).bind fun (t22 : Int32) => ((ix s12.1 192).bind fun j31 => some (.inl ((s12.1 + 1), (sI s12.2 5 j31 (nz t22))))))))) ((0 : Int32), (sI σ 0 0 (0 : Int32)))).bind fun (r13 : St) => ((m_X4_becomes r13 a0).bind fun v33 => some (v33.1, v33.2)))))))))
set_option maxHeartbeats 4000000 in
set_option maxRecDepth 100000 in
theorem t_X4_move (l : Launch) (hnt : l.stackTraces = false) {E : Ev} {base : Nat} (hE : Adr YM E base) (σ : St) (a0 : Int32) (a1 : Int32) (a2 : Int32) (r : Int32 × St) (h : m_X4_move σ a0 a1 a2 = some r) : Ctr l yX4_move cX4_move 5 (some .int) 2 46 YM E base [.ref (E.2.2 0), .int a0, .int a1, .int a2] σ (.ok (some (.int r.1))) r.2 := by
  unfold m_X4_move at h
  refine ofV 1 (by decide +kernel) rfl hE hnt (Nat.le_of_ble_eq_true rfl) rfl (fun M hN K => ?_)
  refine v_aload0 (pc := 0) K dX4_move_0 ?_
  refine v_ic0 (pc := 1) K dX4_move_1 ?_
  refine v_put (pc := 2) K fw_RX4_69 dX4_move_2 rfl rfl (Nat.le_of_ble_eq_true rfl) rfl rfl ?_
  refine v_iload1 (pc := 5) K dX4_move_5 ?_
  obtain ⟨v1, h2, h⟩ := bd h
  refine v_cS1I (pc := 6)  K ca_yX4_isMask ml_RX4_91 (t_X4_isMask _ K.nt K.ad (sI σ 0 0 (0 : Int32)) a0 v1 h2) (Nat.le_of_ble_eq_true rfl) (by decide) (by decide) dX4_move_6 ?_
  refine v_if_eq (pc := 9) (tgt := 19) K dX4_move_9 (by decide) (fun c3 => ?_) (fun c3 => ?_)
  · have h := it c3 h
    refine v_aload0 (pc := 19) K dX4_move_19 ?_
    refine v_ic1 (pc := 20) K dX4_move_20 ?_
    obtain ⟨v4, h5, h⟩ := bd h
    refine v_cV1I (pc := 21)  K ca_yX4_fails ml_RX4_105 (Nat.le_of_ble_eq_true rfl) rfl rfl (t_X4_fails _ K.nt K.ad (sI σ 0 0 (0 : Int32)) (1 : Int32) v4 h5) (Nat.le_of_ble_eq_true rfl) (by decide) (by decide) dX4_move_21 ?_
    cases h
    exact v_iret (pc := 24) K dX4_move_24 rfl rfl
  · have h := ie c3 h
    refine v_iload2 (pc := 12) K dX4_move_12 ?_
    obtain ⟨v6, h7, h⟩ := bd h
    refine v_cS1I (pc := 13)  K ca_yX4_isMask ml_RX4_91 (t_X4_isMask _ K.nt K.ad (sI σ 0 0 (0 : Int32)) a1 v6 h7) (Nat.le_of_ble_eq_true rfl) (by decide) (by decide) dX4_move_13 ?_
    refine v_if_ne (pc := 16) (tgt := 25) K dX4_move_16 (by decide) (fun c8 => ?_) (fun c8 => ?_)
    · have h := ie c8 h
      refine v_iload3 (pc := 25) K dX4_move_25 ?_
      refine v_i2l (pc := 26) K dX4_move_26 ?_
      refine v_ldc2 (pc := 27) K dX4_move_27 cl_RX4_186 ?_
      refine v_ldc2 (pc := 30) K dX4_move_30 cl_RX4_188 ?_
      obtain ⟨v9, h10, h⟩ := bd h
      refine v_cS3I (pc := 33)  K ca_yX4_isIn ml_RX4_76 (t_X4_isIn _ K.nt K.ad (sI σ 0 0 (0 : Int32)) ((a2).toInt64) ((-192) : Int64) (192 : Int64) v9 h10) (Nat.le_of_ble_eq_true rfl) (by decide) (by decide) dX4_move_33 ?_
      refine v_if_ne (pc := 36) (tgt := 45) K dX4_move_36 (by decide) (fun c11 => ?_) (fun c11 => ?_)
      · have h := ie c11 h
        refine v_ic0 (pc := 45) K dX4_move_45 ?_
        refine v_istore4 (pc := 46) K dX4_move_46 rfl (Nat.le_of_ble_eq_true rfl) ?_
        obtain ⟨r13, h15, h⟩ := bd h
        have hJ14 : V (mkX M YM E base 5 (.ok (some (.int r.1))) r.2) r13 101 [some (.ref (E.2.2 0)), some (.int a0), none, none, none] [] := by
          refine v_aload0 (pc := 101) K dX4_move_101 ?_
          refine v_iload1 (pc := 102) K dX4_move_102 ?_
          obtain ⟨v33, h34, h⟩ := bd h
          refine v_cV1I (pc := 103)  K ca_yX4_becomes ml_RX4_159 (Nat.le_of_ble_eq_true rfl) rfl rfl (t_X4_becomes _ K.nt K.ad r13 a0 v33 h34) (Nat.le_of_ble_eq_true rfl) (by decide) (by decide) dX4_move_103 ?_
          cases h
          exact v_iret (pc := 106) K dX4_move_106 rfl rfl
        clear h
        have hL35 := lpv h15 (fun s12 : Int32 × St => V (mkX M YM E base 5 (.ok (some (.int r.1))) r.2) s12.2 48 [some (.ref (E.2.2 0)), some (.int a0), some (.int a1), some (.int a2), some (.int s12.1)] [])
        refine hL35 (fun s12 o h hk => ?_)
        refine v_iload4 (pc := 48) K dX4_move_48 ?_
        refine v_sipush (pc := 50) (v := 192) K dX4_move_50 (by decide) ?_
        refine v_icmp_ge (pc := 53) (tgt := 101) K dX4_move_53 (by decide) (fun c19 => ?_) (fun c19 => ?_)
        · have h := it c19 h
          have e := lx h hk
          cases e
          exact v_fg [true, true, false, false, false] hJ14
        · have h := ie c19 h
          refine v_aload0 (pc := 56) K dX4_move_56 ?_
          refine v_getR (pc := 57) K fl_RX4_24 dX4_move_57 (Nat.le_of_ble_eq_true rfl) rfl rfl ?_
          refine v_iload4 (pc := 60) K dX4_move_60 ?_
          refine v_aload0 (pc := 62) K dX4_move_62 ?_
          refine v_iload4 (pc := 63) K dX4_move_63 ?_
          refine v_iload3 (pc := 65) K dX4_move_65 ?_
          refine v_isub (pc := 66) K dX4_move_66 ?_
          obtain ⟨v20, h21, h⟩ := bd h
          refine v_cV1I (pc := 67)  K ca_yX4_isRow ml_RX4_113 (Nat.le_of_ble_eq_true rfl) rfl rfl (t_X4_isRow _ K.nt K.ad s12.2 (s12.1 - a2) v20 h21) (Nat.le_of_ble_eq_true rfl) (by decide) (by decide) dX4_move_67 ?_
          obtain ⟨t22, h24, h⟩ := bd h
          have hJ23 : V (mkX M YM E base 5 (.ok (some (.int r.1))) r.2) s12.2 94 [some (.ref (E.2.2 0)), some (.int a0), some (.int a1), some (.int a2), some (.int s12.1)] [.int t22, .int s12.1, .ref (E.2.2 5)] := by
            obtain ⟨j31, h32, h⟩ := bd h
            refine v_zastore (pc := 94) K dX4_move_94 (Nat.le_of_ble_eq_true rfl) rfl h32 ?_
            refine v_iinc4 (pc := 95) (w := 1) K dX4_move_95 rfl (Nat.le_of_ble_eq_true rfl) (by decide) ?_
            refine v_goto (pc := 98) (tgt := 48) K dX4_move_98 (by decide) ?_
            have e := lfc h hk
            exact e
          clear h
          have h := h24
          refine v_if_eq (pc := 70) (tgt := 93) K dX4_move_70 (by decide) (fun c25 => ?_) (fun c25 => ?_)
          · have h := it c25 h
            refine v_ic0 (pc := 93) K dX4_move_93 ?_
            cases h
            exact hJ23
          · have h := ie c25 h
            refine v_aload0 (pc := 73) K dX4_move_73 ?_
            refine v_getR (pc := 74) K fl_RX4_21 dX4_move_74 (Nat.le_of_ble_eq_true rfl) rfl rfl ?_
            refine v_iload2 (pc := 77) K dX4_move_77 ?_
            refine v_iload4 (pc := 78) K dX4_move_78 ?_
            refine v_iload3 (pc := 80) K dX4_move_80 ?_
            refine v_isub (pc := 81) K dX4_move_81 ?_
            obtain ⟨v26, h27, h⟩ := bd h
            refine v_cS2I (pc := 82)  K ca_yX4_at ml_RX4_94 (t_X4_at _ K.nt K.ad s12.2 a1 (s12.1 - a2) v26 h27) (Nat.le_of_ble_eq_true rfl) (by decide) (by decide) dX4_move_82 ?_
            obtain ⟨j28, h29, h⟩ := bd h
            refine v_zaload (pc := 85) K dX4_move_85 (Nat.le_of_ble_eq_true rfl) rfl h29 ?_
            refine v_if_eq (pc := 86) (tgt := 93) K dX4_move_86 (by decide) (fun c30 => ?_) (fun c30 => ?_)
            · have h := it c30 h
              refine v_ic0 (pc := 93) K dX4_move_93 ?_
              cases h
              exact hJ23
            · have h := ie c30 h
              refine v_ic1 (pc := 89) K dX4_move_89 ?_
              refine v_goto (pc := 90) (tgt := 94) K dX4_move_90 (by decide) ?_
              cases h
              exact hJ23
      · have h := it c11 h
        refine v_aload0 (pc := 39) K dX4_move_39 ?_
        refine v_ic2 (pc := 40) K dX4_move_40 ?_
        obtain ⟨v36, h37, h⟩ := bd h
        refine v_cV1I (pc := 41)  K ca_yX4_fails ml_RX4_105 (Nat.le_of_ble_eq_true rfl) rfl rfl (t_X4_fails _ K.nt K.ad (sI σ 0 0 (0 : Int32)) (2 : Int32) v36 h37) (Nat.le_of_ble_eq_true rfl) (by decide) (by decide) dX4_move_41 ?_
        cases h
        exact v_iret (pc := 44) K dX4_move_44 rfl rfl
    · have h := it c8 h
      refine v_aload0 (pc := 19) K dX4_move_19 ?_
      refine v_ic1 (pc := 20) K dX4_move_20 ?_
      obtain ⟨v38, h39, h⟩ := bd h
      refine v_cV1I (pc := 21)  K ca_yX4_fails ml_RX4_105 (Nat.le_of_ble_eq_true rfl) rfl rfl (t_X4_fails _ K.nt K.ad (sI σ 0 0 (0 : Int32)) (1 : Int32) v38 h39) (Nat.le_of_ble_eq_true rfl) (by decide) (by decide) dX4_move_21 ?_
      cases h
      exact v_iret (pc := 24) K dX4_move_24 rfl rfl
set_option maxRecDepth 100000 in
def m_X4_areAlike (σ : St) (a0 : Int32) (a1 : Int32) : Option (Int32) :=
  (eB (lp 5000 (fun (s1 : Int32) => (if σ.1 0 6 ≤ s1 then some (.inr (.inl ())) else ((m_X4_at σ s1 a0).bind fun v9 => ((m_X4_at σ s1 a1).bind fun v11 => ((ix v9 1152).bind fun j13 => ((ix v11 1152).bind fun j15 => (if σ.1 2 j13 = σ.1 2 j15 then ((ix v9 1152).bind fun j18 => (if σ.1 2 j18 = 0 then some (.inl (s1 + 1)) else ((ix v9 1152).bind fun j21 => ((ix v11 1152).bind fun j23 => (if σ.2 1 j21 = σ.2 1 j23 then some (.inl (s1 + 1)) else some (.inr (.inr (nz (0 : Int32))))))))) else some (.inr (.inr (nz (0 : Int32))))))))))) (0 : Int32)) fun (r2 : Unit) => some (nz (1 : Int32)))
set_option maxHeartbeats 4000000 in
set_option maxRecDepth 100000 in
theorem t_X4_areAlike (l : Launch) (hnt : l.stackTraces = false) {E : Ev} {base : Nat} (hE : Adr YM E base) (σ : St) (a0 : Int32) (a1 : Int32) (r : Int32) (h : m_X4_areAlike σ a0 a1 = some r) : Ctr l yX4_areAlike cX4_areAlike 6 (some .boolean) 1 21 YM E base [.ref (E.2.2 0), .int a0, .int a1] σ (.ok (some (.int r))) σ := by
  unfold m_X4_areAlike at h
  refine ofV 3 (by decide +kernel) rfl hE hnt (Nat.le_of_ble_eq_true rfl) rfl (fun M hN K => ?_)
  refine v_ic0 (pc := 0) K dX4_areAlike_0 ?_
  refine v_istore3 (pc := 1) K dX4_areAlike_1 rfl (Nat.le_of_ble_eq_true rfl) ?_
  obtain ⟨w7, h4, hi5, hq6⟩ := eb h
  have hJ3 : ∀ r2 : Unit, w7 = .inl r2 → V (mkX M YM E base 6 (.ok (some (.int r))) σ) σ 77 [none, none, none, none, none, none] [] := by
    intro r2 ha
    have h := hi5 _ ha
    refine v_ic1 (pc := 77) K dX4_areAlike_77 ?_
    cases h
    exact v_zret (pc := 78) K dX4_areAlike_78 rfl rfl
  clear h
  have hL26 := lpv h4 (fun s1 : Int32 => V (mkX M YM E base 6 (.ok (some (.int r))) σ) σ 2 [some (.ref (E.2.2 0)), some (.int a0), some (.int a1), some (.int s1), none, none] [])
  refine hL26 (fun s1 o h hk => ?_)
  refine v_iload3 (pc := 2) K dX4_areAlike_2 ?_
  refine v_aload0 (pc := 3) K dX4_areAlike_3 ?_
  refine v_getI (pc := 4) K fl_RX4_73 dX4_areAlike_4 (Nat.le_of_ble_eq_true rfl) rfl rfl ?_
  refine v_icmp_ge (pc := 7) (tgt := 77) K dX4_areAlike_7 (by decide) (fun c8 => ?_) (fun c8 => ?_)
  · have h := it c8 h
    have e := lx h hk
    exact v_fg [false, false, false, false, true, true] (hJ3 _ e.symm)
  · have h := ie c8 h
    refine v_iload3 (pc := 10) K dX4_areAlike_10 ?_
    refine v_iload1 (pc := 11) K dX4_areAlike_11 ?_
    obtain ⟨v9, h10, h⟩ := bd h
    refine v_cS2I (pc := 12)  K ca_yX4_at ml_RX4_94 (t_X4_at _ K.nt K.ad σ s1 a0 v9 h10) (Nat.le_of_ble_eq_true rfl) (by decide) (by decide) dX4_areAlike_12 ?_
    refine v_istore4 (pc := 15) K dX4_areAlike_15 rfl (Nat.le_of_ble_eq_true rfl) ?_
    refine v_iload3 (pc := 17) K dX4_areAlike_17 ?_
    refine v_iload2 (pc := 18) K dX4_areAlike_18 ?_
    obtain ⟨v11, h12, h⟩ := bd h
    refine v_cS2I (pc := 19)  K ca_yX4_at ml_RX4_94 (t_X4_at _ K.nt K.ad σ s1 a1 v11 h12) (Nat.le_of_ble_eq_true rfl) (by decide) (by decide) dX4_areAlike_19 ?_
    refine v_istore5 (pc := 22) K dX4_areAlike_22 rfl (Nat.le_of_ble_eq_true rfl) ?_
    refine v_aload0 (pc := 24) K dX4_areAlike_24 ?_
    refine v_getR (pc := 25) K fl_RX4_13 dX4_areAlike_25 (Nat.le_of_ble_eq_true rfl) rfl rfl ?_
    refine v_iload4 (pc := 28) K dX4_areAlike_28 ?_
    obtain ⟨j13, h14, h⟩ := bd h
    refine v_zaload (pc := 30) K dX4_areAlike_30 (Nat.le_of_ble_eq_true rfl) rfl h14 ?_
    refine v_aload0 (pc := 31) K dX4_areAlike_31 ?_
    refine v_getR (pc := 32) K fl_RX4_13 dX4_areAlike_32 (Nat.le_of_ble_eq_true rfl) rfl rfl ?_
    refine v_iload5 (pc := 35) K dX4_areAlike_35 ?_
    obtain ⟨j15, h16, h⟩ := bd h
    refine v_zaload (pc := 37) K dX4_areAlike_37 (Nat.le_of_ble_eq_true rfl) rfl h16 ?_
    refine v_icmp_ne (pc := 38) (tgt := 69) K dX4_areAlike_38 (by decide) (fun c17 => ?_) (fun c17 => ?_)
    · have h := ie c17 h
      refine v_ic0 (pc := 69) K dX4_areAlike_69 ?_
      have h := congrArg some (hq6 _ (lx h hk).symm)
      cases h
      exact v_zret (pc := 70) K dX4_areAlike_70 rfl rfl
    · have h := it c17 h
      refine v_aload0 (pc := 41) K dX4_areAlike_41 ?_
      refine v_getR (pc := 42) K fl_RX4_13 dX4_areAlike_42 (Nat.le_of_ble_eq_true rfl) rfl rfl ?_
      refine v_iload4 (pc := 45) K dX4_areAlike_45 ?_
      obtain ⟨j18, h19, h⟩ := bd h
      refine v_zaload (pc := 47) K dX4_areAlike_47 (Nat.le_of_ble_eq_true rfl) rfl h19 ?_
      refine v_if_eq (pc := 48) (tgt := 71) K dX4_areAlike_48 (by decide) (fun c20 => ?_) (fun c20 => ?_)
      · have h := it c20 h
        refine v_iinc3 (pc := 71) (w := 1) K dX4_areAlike_71 rfl (Nat.le_of_ble_eq_true rfl) (by decide) ?_
        refine v_goto (pc := 74) (tgt := 2) K dX4_areAlike_74 (by decide) ?_
        have e := lfc h hk
        exact v_fg [true, true, true, true, false, false] e
      · have h := ie c20 h
        refine v_aload0 (pc := 51) K dX4_areAlike_51 ?_
        refine v_getR (pc := 52) K fl_RX4_7 dX4_areAlike_52 (Nat.le_of_ble_eq_true rfl) rfl rfl ?_
        refine v_iload4 (pc := 55) K dX4_areAlike_55 ?_
        obtain ⟨j21, h22, h⟩ := bd h
        refine v_laload (pc := 57) K dX4_areAlike_57 (Nat.le_of_ble_eq_true rfl) rfl h22 ?_
        refine v_aload0 (pc := 58) K dX4_areAlike_58 ?_
        refine v_getR (pc := 59) K fl_RX4_7 dX4_areAlike_59 (Nat.le_of_ble_eq_true rfl) rfl rfl ?_
        refine v_iload5 (pc := 62) K dX4_areAlike_62 ?_
        obtain ⟨j23, h24, h⟩ := bd h
        refine v_laload (pc := 64) K dX4_areAlike_64 (Nat.le_of_ble_eq_true rfl) rfl h24 ?_
        refine v_lc_eq (pc := 65) (tgt := 71) K dX4_areAlike_65 dX4_areAlike_66 (by decide) (fun c25 => ?_) (fun c25 => ?_)
        · have h := it c25 h
          refine v_iinc3 (pc := 71) (w := 1) K dX4_areAlike_71 rfl (Nat.le_of_ble_eq_true rfl) (by decide) ?_
          refine v_goto (pc := 74) (tgt := 2) K dX4_areAlike_74 (by decide) ?_
          have e := lfc h hk
          exact v_fg [true, true, true, true, false, false] e
        · have h := ie c25 h
          refine v_ic0 (pc := 69) K dX4_areAlike_69 ?_
          have h := congrArg some (hq6 _ (lx h hk).symm)
          cases h
          exact v_zret (pc := 70) K dX4_areAlike_70 rfl rfl
set_option maxRecDepth 100000 in
def m_X4_isFirst (σ : St) (a0 : Int32) (a1 : Int32) : Option (Int32) :=
  (eB (lp 5000 (fun (s1 : Int32) => (if a0 ≤ s1 then some (.inr (.inl ())) else ((m_X4_at σ a1 s1).bind fun v9 => ((ix v9 1536).bind fun j11 => (if σ.1 4 j11 = 0 then some (.inl (s1 + 1)) else ((m_X4_areAlike σ s1 a0).bind fun v14 => (if v14 = 0 then some (.inl (s1 + 1)) else some (.inr (.inr (nz (0 : Int32))))))))))) (0 : Int32)) fun (r2 : Unit) => ((m_X4_at σ a1 a0).bind fun v17 => ((ix v17 1536).bind fun j19 => some (nz (σ.1 4 j19)))))
set_option maxHeartbeats 4000000 in
set_option maxRecDepth 100000 in
theorem t_X4_isFirst (l : Launch) (hnt : l.stackTraces = false) {E : Ev} {base : Nat} (hE : Adr YM E base) (σ : St) (a0 : Int32) (a1 : Int32) (r : Int32) (h : m_X4_isFirst σ a0 a1 = some r) : Ctr l yX4_isFirst cX4_isFirst 4 (some .boolean) 2 46 YM E base [.ref (E.2.2 0), .int a0, .int a1] σ (.ok (some (.int r))) σ := by
  unfold m_X4_isFirst at h
  refine ofV 1 (by decide +kernel) rfl hE hnt (Nat.le_of_ble_eq_true rfl) rfl (fun M hN K => ?_)
  refine v_ic0 (pc := 0) K dX4_isFirst_0 ?_
  refine v_istore3 (pc := 1) K dX4_isFirst_1 rfl (Nat.le_of_ble_eq_true rfl) ?_
  obtain ⟨w7, h4, hi5, hq6⟩ := eb h
  have hJ3 : ∀ r2 : Unit, w7 = .inl r2 → V (mkX M YM E base 4 (.ok (some (.int r))) σ) σ 37 [some (.ref (E.2.2 0)), some (.int a0), some (.int a1), none] [] := by
    intro r2 ha
    have h := hi5 _ ha
    refine v_aload0 (pc := 37) K dX4_isFirst_37 ?_
    refine v_getR (pc := 38) K fl_RX4_21 dX4_isFirst_38 (Nat.le_of_ble_eq_true rfl) rfl rfl ?_
    refine v_iload2 (pc := 41) K dX4_isFirst_41 ?_
    refine v_iload1 (pc := 42) K dX4_isFirst_42 ?_
    obtain ⟨v17, h18, h⟩ := bd h
    refine v_cS2I (pc := 43)  K ca_yX4_at ml_RX4_94 (t_X4_at _ K.nt K.ad σ a1 a0 v17 h18) (Nat.le_of_ble_eq_true rfl) (by decide) (by decide) dX4_isFirst_43 ?_
    obtain ⟨j19, h20, h⟩ := bd h
    refine v_zaload (pc := 46) K dX4_isFirst_46 (Nat.le_of_ble_eq_true rfl) rfl h20 ?_
    cases h
    exact v_zret (pc := 47) K dX4_isFirst_47 rfl rfl
  clear h
  have hL21 := lpv h4 (fun s1 : Int32 => V (mkX M YM E base 4 (.ok (some (.int r))) σ) σ 2 [some (.ref (E.2.2 0)), some (.int a0), some (.int a1), some (.int s1)] [])
  refine hL21 (fun s1 o h hk => ?_)
  refine v_iload3 (pc := 2) K dX4_isFirst_2 ?_
  refine v_iload1 (pc := 3) K dX4_isFirst_3 ?_
  refine v_icmp_ge (pc := 4) (tgt := 37) K dX4_isFirst_4 (by decide) (fun c8 => ?_) (fun c8 => ?_)
  · have h := it c8 h
    have e := lx h hk
    exact v_fg [true, true, true, false] (hJ3 _ e.symm)
  · have h := ie c8 h
    refine v_aload0 (pc := 7) K dX4_isFirst_7 ?_
    refine v_getR (pc := 8) K fl_RX4_21 dX4_isFirst_8 (Nat.le_of_ble_eq_true rfl) rfl rfl ?_
    refine v_iload2 (pc := 11) K dX4_isFirst_11 ?_
    refine v_iload3 (pc := 12) K dX4_isFirst_12 ?_
    obtain ⟨v9, h10, h⟩ := bd h
    refine v_cS2I (pc := 13)  K ca_yX4_at ml_RX4_94 (t_X4_at _ K.nt K.ad σ a1 s1 v9 h10) (Nat.le_of_ble_eq_true rfl) (by decide) (by decide) dX4_isFirst_13 ?_
    obtain ⟨j11, h12, h⟩ := bd h
    refine v_zaload (pc := 16) K dX4_isFirst_16 (Nat.le_of_ble_eq_true rfl) rfl h12 ?_
    refine v_if_eq (pc := 17) (tgt := 31) K dX4_isFirst_17 (by decide) (fun c13 => ?_) (fun c13 => ?_)
    · have h := it c13 h
      refine v_iinc3 (pc := 31) (w := 1) K dX4_isFirst_31 rfl (Nat.le_of_ble_eq_true rfl) (by decide) ?_
      refine v_goto (pc := 34) (tgt := 2) K dX4_isFirst_34 (by decide) ?_
      have e := lfc h hk
      exact e
    · have h := ie c13 h
      refine v_aload0 (pc := 20) K dX4_isFirst_20 ?_
      refine v_iload3 (pc := 21) K dX4_isFirst_21 ?_
      refine v_iload1 (pc := 22) K dX4_isFirst_22 ?_
      obtain ⟨v14, h15, h⟩ := bd h
      refine v_cV2I (pc := 23)  K ca_yX4_areAlike ml_RX4_190 (Nat.le_of_ble_eq_true rfl) rfl rfl (t_X4_areAlike _ K.nt K.ad σ s1 a0 v14 h15) (Nat.le_of_ble_eq_true rfl) (by decide) (by decide) dX4_isFirst_23 ?_
      refine v_if_eq (pc := 26) (tgt := 31) K dX4_isFirst_26 (by decide) (fun c16 => ?_) (fun c16 => ?_)
      · have h := it c16 h
        refine v_iinc3 (pc := 31) (w := 1) K dX4_isFirst_31 rfl (Nat.le_of_ble_eq_true rfl) (by decide) ?_
        refine v_goto (pc := 34) (tgt := 2) K dX4_isFirst_34 (by decide) ?_
        have e := lfc h hk
        exact e
      · have h := ie c16 h
        refine v_ic0 (pc := 29) K dX4_isFirst_29 ?_
        have h := congrArg some (hq6 _ (lx h hk).symm)
        cases h
        exact v_zret (pc := 30) K dX4_isFirst_30 rfl rfl
set_option maxRecDepth 100000 in
def m_X4_firsts (σ : St) (a0 : Int32) (a1 : Int32) : Option (Int32 × St) :=
  ((m_X4_isMask (sI σ 0 0 (0 : Int32)) a0).bind fun v1 => (if v1 = 0 then ((m_X4_fails (sI σ 0 0 (0 : Int32)) (1 : Int32)).bind fun v4 => some (v4.1, v4.2)) else ((m_X4_isMask (sI σ 0 0 (0 : Int32)) a1).bind fun v6 => (if v6 = 0 then ((m_X4_fails (sI σ 0 0 (0 : Int32)) (1 : Int32)).bind fun v26 => some (v26.1, v26.2)) else ((m_X4_laysNone (sI σ 0 0 (0 : Int32))).bind fun v9 => ((lp 5000 (fun (s11 : Int32 × St) => (if s11.2.1 0 5 ≤ s11.1 then some (.inr s11.2) else ((m_X4_isFirst s11.2 s11.1 a1).bind fun v19 => ((ix s11.1 192).bind fun j21 => some (.inl ((s11.1 + 1), (sI s11.2 5 j21 (nz v19)))))))) ((0 : Int32), v9)).bind fun (r12 : St) => ((m_X4_becomes r12 a0).bind fun v23 => some (v23.1, v23.2))))))))
set_option maxHeartbeats 4000000 in
set_option maxRecDepth 100000 in
theorem t_X4_firsts (l : Launch) (hnt : l.stackTraces = false) {E : Ev} {base : Nat} (hE : Adr YM E base) (σ : St) (a0 : Int32) (a1 : Int32) (r : Int32 × St) (h : m_X4_firsts σ a0 a1 = some r) : Ctr l yX4_firsts cX4_firsts 4 (some .int) 3 69 YM E base [.ref (E.2.2 0), .int a0, .int a1] σ (.ok (some (.int r.1))) r.2 := by
  unfold m_X4_firsts at h
  refine ofV 1 (by decide +kernel) rfl hE hnt (Nat.le_of_ble_eq_true rfl) rfl (fun M hN K => ?_)
  refine v_aload0 (pc := 0) K dX4_firsts_0 ?_
  refine v_ic0 (pc := 1) K dX4_firsts_1 ?_
  refine v_put (pc := 2) K fw_RX4_69 dX4_firsts_2 rfl rfl (Nat.le_of_ble_eq_true rfl) rfl rfl ?_
  refine v_iload1 (pc := 5) K dX4_firsts_5 ?_
  obtain ⟨v1, h2, h⟩ := bd h
  refine v_cS1I (pc := 6)  K ca_yX4_isMask ml_RX4_91 (t_X4_isMask _ K.nt K.ad (sI σ 0 0 (0 : Int32)) a0 v1 h2) (Nat.le_of_ble_eq_true rfl) (by decide) (by decide) dX4_firsts_6 ?_
  refine v_if_eq (pc := 9) (tgt := 19) K dX4_firsts_9 (by decide) (fun c3 => ?_) (fun c3 => ?_)
  · have h := it c3 h
    refine v_aload0 (pc := 19) K dX4_firsts_19 ?_
    refine v_ic1 (pc := 20) K dX4_firsts_20 ?_
    obtain ⟨v4, h5, h⟩ := bd h
    refine v_cV1I (pc := 21)  K ca_yX4_fails ml_RX4_105 (Nat.le_of_ble_eq_true rfl) rfl rfl (t_X4_fails _ K.nt K.ad (sI σ 0 0 (0 : Int32)) (1 : Int32) v4 h5) (Nat.le_of_ble_eq_true rfl) (by decide) (by decide) dX4_firsts_21 ?_
    cases h
    exact v_iret (pc := 24) K dX4_firsts_24 rfl rfl
  · have h := ie c3 h
    refine v_iload2 (pc := 12) K dX4_firsts_12 ?_
    obtain ⟨v6, h7, h⟩ := bd h
    refine v_cS1I (pc := 13)  K ca_yX4_isMask ml_RX4_91 (t_X4_isMask _ K.nt K.ad (sI σ 0 0 (0 : Int32)) a1 v6 h7) (Nat.le_of_ble_eq_true rfl) (by decide) (by decide) dX4_firsts_13 ?_
    refine v_if_ne (pc := 16) (tgt := 25) K dX4_firsts_16 (by decide) (fun c8 => ?_) (fun c8 => ?_)
    · have h := ie c8 h
      refine v_aload0 (pc := 25) K dX4_firsts_25 ?_
      obtain ⟨v9, h10, h⟩ := bd h
      refine v_cV0U (pc := 26)  K ca_yX4_laysNone ml_RX4_177 (Nat.le_of_ble_eq_true rfl) rfl rfl (t_X4_laysNone _ K.nt K.ad (sI σ 0 0 (0 : Int32)) v9 h10) (Nat.le_of_ble_eq_true rfl) (by decide) (by decide) dX4_firsts_26 ?_
      refine v_ic0 (pc := 29) K dX4_firsts_29 ?_
      refine v_istore3 (pc := 30) K dX4_firsts_30 rfl (Nat.le_of_ble_eq_true rfl) ?_
      obtain ⟨r12, h14, h⟩ := bd h
      have hJ13 : V (mkX M YM E base 4 (.ok (some (.int r.1))) r.2) r12 57 [some (.ref (E.2.2 0)), some (.int a0), none, none] [] := by
        refine v_aload0 (pc := 57) K dX4_firsts_57 ?_
        refine v_iload1 (pc := 58) K dX4_firsts_58 ?_
        obtain ⟨v23, h24, h⟩ := bd h
        refine v_cV1I (pc := 59)  K ca_yX4_becomes ml_RX4_159 (Nat.le_of_ble_eq_true rfl) rfl rfl (t_X4_becomes _ K.nt K.ad r12 a0 v23 h24) (Nat.le_of_ble_eq_true rfl) (by decide) (by decide) dX4_firsts_59 ?_
        cases h
        exact v_iret (pc := 62) K dX4_firsts_62 rfl rfl
      clear h
      have hL25 := lpv h14 (fun s11 : Int32 × St => V (mkX M YM E base 4 (.ok (some (.int r.1))) r.2) s11.2 31 [some (.ref (E.2.2 0)), some (.int a0), some (.int a1), some (.int s11.1)] [])
      refine hL25 (fun s11 o h hk => ?_)
      refine v_iload3 (pc := 31) K dX4_firsts_31 ?_
      refine v_aload0 (pc := 32) K dX4_firsts_32 ?_
      refine v_getI (pc := 33) K fl_RX4_80 dX4_firsts_33 (Nat.le_of_ble_eq_true rfl) rfl rfl ?_
      refine v_icmp_ge (pc := 36) (tgt := 57) K dX4_firsts_36 (by decide) (fun c18 => ?_) (fun c18 => ?_)
      · have h := it c18 h
        have e := lx h hk
        cases e
        exact v_fg [true, true, false, false] hJ13
      · have h := ie c18 h
        refine v_aload0 (pc := 39) K dX4_firsts_39 ?_
        refine v_getR (pc := 40) K fl_RX4_24 dX4_firsts_40 (Nat.le_of_ble_eq_true rfl) rfl rfl ?_
        refine v_iload3 (pc := 43) K dX4_firsts_43 ?_
        refine v_aload0 (pc := 44) K dX4_firsts_44 ?_
        refine v_iload3 (pc := 45) K dX4_firsts_45 ?_
        refine v_iload2 (pc := 46) K dX4_firsts_46 ?_
        obtain ⟨v19, h20, h⟩ := bd h
        refine v_cV2I (pc := 47)  K ca_yX4_isFirst ml_RX4_193 (Nat.le_of_ble_eq_true rfl) rfl rfl (t_X4_isFirst _ K.nt K.ad s11.2 s11.1 a1 v19 h20) (Nat.le_of_ble_eq_true rfl) (by decide) (by decide) dX4_firsts_47 ?_
        obtain ⟨j21, h22, h⟩ := bd h
        refine v_zastore (pc := 50) K dX4_firsts_50 (Nat.le_of_ble_eq_true rfl) rfl h22 ?_
        refine v_iinc3 (pc := 51) (w := 1) K dX4_firsts_51 rfl (Nat.le_of_ble_eq_true rfl) (by decide) ?_
        refine v_goto (pc := 54) (tgt := 31) K dX4_firsts_54 (by decide) ?_
        have e := lfc h hk
        exact e
    · have h := it c8 h
      refine v_aload0 (pc := 19) K dX4_firsts_19 ?_
      refine v_ic1 (pc := 20) K dX4_firsts_20 ?_
      obtain ⟨v26, h27, h⟩ := bd h
      refine v_cV1I (pc := 21)  K ca_yX4_fails ml_RX4_105 (Nat.le_of_ble_eq_true rfl) rfl rfl (t_X4_fails _ K.nt K.ad (sI σ 0 0 (0 : Int32)) (1 : Int32) v26 h27) (Nat.le_of_ble_eq_true rfl) (by decide) (by decide) dX4_firsts_21 ?_
      cases h
      exact v_iret (pc := 24) K dX4_firsts_24 rfl rfl
set_option maxRecDepth 100000 in
def m_X4_runs (σ : St) (a0 : Int32) (a1 : Int32) : Option (Int32 × St) :=
  ((m_X4_isMask (sI σ 0 0 (0 : Int32)) a0).bind fun v1 => (if v1 = 0 then ((m_X4_fails (sI σ 0 0 (0 : Int32)) (1 : Int32)).bind fun v41 => some (v41.1, v41.2)) else ((m_X4_isIn (sI σ 0 0 (0 : Int32)) ((a1).toInt64) (0 : Int64) (2 : Int64)).bind fun v4 => (if v4 = 0 then ((m_X4_fails (sI σ 0 0 (0 : Int32)) (2 : Int32)).bind fun v39 => some (v39.1, v39.2)) else ((lp 5000 (fun (s7 : Int32 × Int32 × Int32 × Int32 × Int32) => (if (sI σ 0 0 (0 : Int32)).1 0 5 ≤ s7.2.2.2.2 then some (.inr (s7.1, s7.2.1, s7.2.2.1)) else ((m_X4_at (sI σ 0 0 (0 : Int32)) a0 s7.2.2.2.2).bind fun v15 => ((ix v15 1536).bind fun j17 => ((if (sI σ 0 0 (0 : Int32)).1 4 j17 = 0 then some (0 : Int32) else some (s7.2.2.2.1 + (1 : Int32))).bind fun (t19 : Int32) => ((if t19 = (1 : Int32) then some (1 : Int32) else some (0 : Int32)).bind fun (t23 : Int32) => ((m_X4_flag (sI σ 0 0 (0 : Int32)) t23).bind fun v27 => ((if s7.2.1 < t19 then some (t19, ((s7.2.2.2.2 - t19) + (1 : Int32))) else some (s7.2.1, s7.2.2.1)).bind fun (t29 : Int32 × Int32) => some (.inl ((s7.1 + v27), t29.1, t29.2, t19, (s7.2.2.2.2 + 1))))))))))) ((0 : Int32), (0 : Int32), ((-1) : Int32), (0 : Int32), (0 : Int32))).bind fun (r8 : Int32 × Int32 × Int32) => ((if a1 = 0 then some r8.1 else (if a1 = (1 : Int32) then some r8.2.1 else some r8.2.2)).bind fun (t33 : Int32) => some (t33, (sI σ 0 0 (0 : Int32)))))))))
set_option maxHeartbeats 4000000 in
set_option maxRecDepth 100000 in
theorem t_X4_runs (l : Launch) (hnt : l.stackTraces = false) {E : Ev} {base : Nat} (hE : Adr YM E base) (σ : St) (a0 : Int32) (a1 : Int32) (r : Int32 × St) (h : m_X4_runs σ a0 a1 = some r) : Ctr l yX4_runs cX4_runs 8 (some .int) 2 45 YM E base [.ref (E.2.2 0), .int a0, .int a1] σ (.ok (some (.int r.1))) r.2 := by
  unfold m_X4_runs at h
  refine ofV 5 (by decide +kernel) rfl hE hnt (Nat.le_of_ble_eq_true rfl) rfl (fun M hN K => ?_)
  refine v_aload0 (pc := 0) K dX4_runs_0 ?_
  refine v_ic0 (pc := 1) K dX4_runs_1 ?_
  refine v_put (pc := 2) K fw_RX4_69 dX4_runs_2 rfl rfl (Nat.le_of_ble_eq_true rfl) rfl rfl ?_
  refine v_iload1 (pc := 5) K dX4_runs_5 ?_
  obtain ⟨v1, h2, h⟩ := bd h
  refine v_cS1I (pc := 6)  K ca_yX4_isMask ml_RX4_91 (t_X4_isMask _ K.nt K.ad (sI σ 0 0 (0 : Int32)) a0 v1 h2) (Nat.le_of_ble_eq_true rfl) (by decide) (by decide) dX4_runs_6 ?_
  refine v_if_ne (pc := 9) (tgt := 18) K dX4_runs_9 (by decide) (fun c3 => ?_) (fun c3 => ?_)
  · have h := ie c3 h
    refine v_iload2 (pc := 18) K dX4_runs_18 ?_
    refine v_i2l (pc := 19) K dX4_runs_19 ?_
    refine v_lc0 (pc := 20) K dX4_runs_20 ?_
    refine v_ldc2 (pc := 21) K dX4_runs_21 cl_RX4_85 ?_
    obtain ⟨v4, h5, h⟩ := bd h
    refine v_cS3I (pc := 24)  K ca_yX4_isIn ml_RX4_76 (t_X4_isIn _ K.nt K.ad (sI σ 0 0 (0 : Int32)) ((a1).toInt64) (0 : Int64) (2 : Int64) v4 h5) (Nat.le_of_ble_eq_true rfl) (by decide) (by decide) dX4_runs_24 ?_
    refine v_if_ne (pc := 27) (tgt := 36) K dX4_runs_27 (by decide) (fun c6 => ?_) (fun c6 => ?_)
    · have h := ie c6 h
      refine v_ic0 (pc := 36) K dX4_runs_36 ?_
      refine v_istore3 (pc := 37) K dX4_runs_37 rfl (Nat.le_of_ble_eq_true rfl) ?_
      refine v_ic0 (pc := 38) K dX4_runs_38 ?_
      refine v_istore4 (pc := 39) K dX4_runs_39 rfl (Nat.le_of_ble_eq_true rfl) ?_
      refine v_icm1 (pc := 41) K dX4_runs_41 ?_
      refine v_istore5 (pc := 42) K dX4_runs_42 rfl (Nat.le_of_ble_eq_true rfl) ?_
      refine v_ic0 (pc := 44) K dX4_runs_44 ?_
      refine v_istore6 (pc := 45) K dX4_runs_45 rfl (Nat.le_of_ble_eq_true rfl) ?_
      refine v_ic0 (pc := 47) K dX4_runs_47 ?_
      refine v_istore7 (pc := 48) K dX4_runs_48 rfl (Nat.le_of_ble_eq_true rfl) ?_
      obtain ⟨r8, h10, h⟩ := bd h
      have hJ9 : V (mkX M YM E base 8 (.ok (some (.int r.1))) r.2) (sI σ 0 0 (0 : Int32)) 129 [none, none, some (.int a1), some (.int r8.1), some (.int r8.2.1), some (.int r8.2.2), none, none] [] := by
        refine v_iload2 (pc := 129) K dX4_runs_129 ?_
        obtain ⟨t33, h35, h⟩ := bd h
        have hJ34 : V (mkX M YM E base 8 (.ok (some (.int r.1))) r.2) (sI σ 0 0 (0 : Int32)) 149 [none, none, none, none, none, none, none, none] [.int t33] := by
          cases h
          exact v_iret (pc := 149) K dX4_runs_149 rfl rfl
        clear h
        have h := h35
        refine v_if_ne (pc := 130) (tgt := 137) K dX4_runs_130 (by decide) (fun c36 => ?_) (fun c36 => ?_)
        · have h := ie c36 h
          refine v_iload2 (pc := 137) K dX4_runs_137 ?_
          refine v_ic1 (pc := 138) K dX4_runs_138 ?_
          refine v_icmp_ne (pc := 139) (tgt := 147) K dX4_runs_139 (by decide) (fun c37 => ?_) (fun c37 => ?_)
          · have h := ie c37 h
            refine v_iload5 (pc := 147) K dX4_runs_147 ?_
            cases h
            exact (v_fg [true, true, false, false, false, false, true, true] hJ34)
          · have h := it c37 h
            refine v_iload4 (pc := 142) K dX4_runs_142 ?_
            refine v_goto (pc := 144) (tgt := 149) K dX4_runs_144 (by decide) ?_
            cases h
            exact (v_fg [true, true, false, false, false, false, true, true] hJ34)
        · have h := it c36 h
          refine v_iload3 (pc := 133) K dX4_runs_133 ?_
          refine v_goto (pc := 134) (tgt := 149) K dX4_runs_134 (by decide) ?_
          cases h
          exact (v_fg [true, true, false, false, false, false, true, true] hJ34)
      clear h
      have hL38 := lpv h10 (fun s7 : Int32 × Int32 × Int32 × Int32 × Int32 => V (mkX M YM E base 8 (.ok (some (.int r.1))) r.2) (sI σ 0 0 (0 : Int32)) 50 [some (.ref (E.2.2 0)), some (.int a0), some (.int a1), some (.int s7.1), some (.int s7.2.1), some (.int s7.2.2.1), some (.int s7.2.2.2.1), some (.int s7.2.2.2.2)] [])
      refine hL38 (fun s7 o h hk => ?_)
      refine v_iload7 (pc := 50) K dX4_runs_50 ?_
      refine v_aload0 (pc := 52) K dX4_runs_52 ?_
      refine v_getI (pc := 53) K fl_RX4_80 dX4_runs_53 (Nat.le_of_ble_eq_true rfl) rfl rfl ?_
      refine v_icmp_ge (pc := 56) (tgt := 129) K dX4_runs_56 (by decide) (fun c14 => ?_) (fun c14 => ?_)
      · have h := it c14 h
        have e := lx h hk
        cases e
        exact v_fg [false, false, true, true, true, true, false, false] hJ9
      · have h := ie c14 h
        refine v_aload0 (pc := 59) K dX4_runs_59 ?_
        refine v_getR (pc := 60) K fl_RX4_21 dX4_runs_60 (Nat.le_of_ble_eq_true rfl) rfl rfl ?_
        refine v_iload1 (pc := 63) K dX4_runs_63 ?_
        refine v_iload7 (pc := 64) K dX4_runs_64 ?_
        obtain ⟨v15, h16, h⟩ := bd h
        refine v_cS2I (pc := 66)  K ca_yX4_at ml_RX4_94 (t_X4_at _ K.nt K.ad (sI σ 0 0 (0 : Int32)) a0 s7.2.2.2.2 v15 h16) (Nat.le_of_ble_eq_true rfl) (by decide) (by decide) dX4_runs_66 ?_
        obtain ⟨j17, h18, h⟩ := bd h
        refine v_zaload (pc := 69) K dX4_runs_69 (Nat.le_of_ble_eq_true rfl) rfl h18 ?_
        obtain ⟨t19, h21, h⟩ := bd h
        have hJ20 : V (mkX M YM E base 8 (.ok (some (.int r.1))) r.2) (sI σ 0 0 (0 : Int32)) 81 [some (.ref (E.2.2 0)), some (.int a0), some (.int a1), some (.int s7.1), some (.int s7.2.1), some (.int s7.2.2.1), none, some (.int s7.2.2.2.2)] [.int t19] := by
          refine v_istore6 (pc := 81) K dX4_runs_81 rfl (Nat.le_of_ble_eq_true rfl) ?_
          refine v_iload3 (pc := 83) K dX4_runs_83 ?_
          refine v_iload6 (pc := 84) K dX4_runs_84 ?_
          refine v_ic1 (pc := 86) K dX4_runs_86 ?_
          obtain ⟨t23, h25, h⟩ := bd h
          have hJ24 : V (mkX M YM E base 8 (.ok (some (.int r.1))) r.2) (sI σ 0 0 (0 : Int32)) 95 [some (.ref (E.2.2 0)), some (.int a0), some (.int a1), none, some (.int s7.2.1), some (.int s7.2.2.1), some (.int t19), some (.int s7.2.2.2.2)] [.int t23, .int s7.1] := by
            obtain ⟨v27, h28, h⟩ := bd h
            refine v_cS1I (pc := 95)  K ca_yX4_flag ml_RX4_123 (t_X4_flag _ K.nt K.ad (sI σ 0 0 (0 : Int32)) t23 v27 h28) (Nat.le_of_ble_eq_true rfl) (by decide) (by decide) dX4_runs_95 ?_
            refine v_iadd (pc := 98) K dX4_runs_98 ?_
            refine v_istore3 (pc := 99) K dX4_runs_99 rfl (Nat.le_of_ble_eq_true rfl) ?_
            refine v_iload6 (pc := 100) K dX4_runs_100 ?_
            refine v_iload4 (pc := 102) K dX4_runs_102 ?_
            obtain ⟨t29, h31, h⟩ := bd h
            have hJ30 : V (mkX M YM E base 8 (.ok (some (.int r.1))) r.2) (sI σ 0 0 (0 : Int32)) 123 [some (.ref (E.2.2 0)), some (.int a0), some (.int a1), some (.int (s7.1 + v27)), some (.int t29.1), some (.int t29.2), some (.int t19), some (.int s7.2.2.2.2)] [] := by
              refine v_iinc7 (pc := 123) (w := 1) K dX4_runs_123 rfl (Nat.le_of_ble_eq_true rfl) (by decide) ?_
              refine v_goto (pc := 126) (tgt := 50) K dX4_runs_126 (by decide) ?_
              have e := lfc h hk
              exact e
            clear h
            have h := h31
            refine v_icmp_gt (pc := 104) (tgt := 110) K dX4_runs_104 (by decide) (fun c32 => ?_) (fun c32 => ?_)
            · have h := it c32 h
              refine v_iload6 (pc := 110) K dX4_runs_110 ?_
              refine v_istore4 (pc := 112) K dX4_runs_112 rfl (Nat.le_of_ble_eq_true rfl) ?_
              refine v_iload7 (pc := 114) K dX4_runs_114 ?_
              refine v_iload6 (pc := 116) K dX4_runs_116 ?_
              refine v_isub (pc := 118) K dX4_runs_118 ?_
              refine v_ic1 (pc := 119) K dX4_runs_119 ?_
              refine v_iadd (pc := 120) K dX4_runs_120 ?_
              refine v_istore5 (pc := 121) K dX4_runs_121 rfl (Nat.le_of_ble_eq_true rfl) ?_
              cases h
              exact hJ30
            · have h := ie c32 h
              refine v_goto (pc := 107) (tgt := 123) K dX4_runs_107 (by decide) ?_
              cases h
              exact hJ30
          clear h
          have h := h25
          refine v_icmp_ne (pc := 87) (tgt := 94) K dX4_runs_87 (by decide) (fun c26 => ?_) (fun c26 => ?_)
          · have h := ie c26 h
            refine v_ic0 (pc := 94) K dX4_runs_94 ?_
            cases h
            exact (v_fg [true, true, true, false, true, true, true, true] hJ24)
          · have h := it c26 h
            refine v_ic1 (pc := 90) K dX4_runs_90 ?_
            refine v_goto (pc := 91) (tgt := 95) K dX4_runs_91 (by decide) ?_
            cases h
            exact (v_fg [true, true, true, false, true, true, true, true] hJ24)
        clear h
        have h := h21
        refine v_if_eq (pc := 70) (tgt := 80) K dX4_runs_70 (by decide) (fun c22 => ?_) (fun c22 => ?_)
        · have h := it c22 h
          refine v_ic0 (pc := 80) K dX4_runs_80 ?_
          cases h
          exact (v_fg [true, true, true, true, true, true, false, true] hJ20)
        · have h := ie c22 h
          refine v_iload6 (pc := 73) K dX4_runs_73 ?_
          refine v_ic1 (pc := 75) K dX4_runs_75 ?_
          refine v_iadd (pc := 76) K dX4_runs_76 ?_
          refine v_goto (pc := 77) (tgt := 81) K dX4_runs_77 (by decide) ?_
          cases h
          exact (v_fg [true, true, true, true, true, true, false, true] hJ20)
    · have h := it c6 h
      refine v_aload0 (pc := 30) K dX4_runs_30 ?_
      refine v_ic2 (pc := 31) K dX4_runs_31 ?_
      obtain ⟨v39, h40, h⟩ := bd h
      refine v_cV1I (pc := 32)  K ca_yX4_fails ml_RX4_105 (Nat.le_of_ble_eq_true rfl) rfl rfl (t_X4_fails _ K.nt K.ad (sI σ 0 0 (0 : Int32)) (2 : Int32) v39 h40) (Nat.le_of_ble_eq_true rfl) (by decide) (by decide) dX4_runs_32 ?_
      cases h
      exact v_iret (pc := 35) K dX4_runs_35 rfl rfl
  · have h := it c3 h
    refine v_aload0 (pc := 12) K dX4_runs_12 ?_
    refine v_ic1 (pc := 13) K dX4_runs_13 ?_
    obtain ⟨v41, h42, h⟩ := bd h
    refine v_cV1I (pc := 14)  K ca_yX4_fails ml_RX4_105 (Nat.le_of_ble_eq_true rfl) rfl rfl (t_X4_fails _ K.nt K.ad (sI σ 0 0 (0 : Int32)) (1 : Int32) v41 h42) (Nat.le_of_ble_eq_true rfl) (by decide) (by decide) dX4_runs_14 ?_
    cases h
    exact v_iret (pc := 17) K dX4_runs_17 rfl rfl
set_option maxRecDepth 100000 in
def m_X4_alike (σ : St) (a0 : Int32) (a1 : Int32) : Option (Int32 × St) :=
  ((m_X4_isRow (sI σ 0 0 (0 : Int32)) a0).bind fun v1 => (if v1 = 0 then ((m_X4_fails (sI σ 0 0 (0 : Int32)) (1 : Int32)).bind fun v4 => some (v4.1, v4.2)) else ((m_X4_isRow (sI σ 0 0 (0 : Int32)) a1).bind fun v6 => (if v6 = 0 then ((m_X4_fails (sI σ 0 0 (0 : Int32)) (1 : Int32)).bind fun v13 => some (v13.1, v13.2)) else ((m_X4_areAlike (sI σ 0 0 (0 : Int32)) a0 a1).bind fun v9 => ((m_X4_flag (sI σ 0 0 (0 : Int32)) v9).bind fun v11 => some (v11, (sI σ 0 0 (0 : Int32)))))))))
set_option maxHeartbeats 4000000 in
set_option maxRecDepth 100000 in
theorem t_X4_alike (l : Launch) (hnt : l.stackTraces = false) {E : Ev} {base : Nat} (hE : Adr YM E base) (σ : St) (a0 : Int32) (a1 : Int32) (r : Int32 × St) (h : m_X4_alike σ a0 a1 = some r) : Ctr l yX4_alike cX4_alike 3 (some .int) 2 46 YM E base [.ref (E.2.2 0), .int a0, .int a1] σ (.ok (some (.int r.1))) r.2 := by
  unfold m_X4_alike at h
  refine ofV 0 (by decide +kernel) rfl hE hnt (Nat.le_of_ble_eq_true rfl) rfl (fun M hN K => ?_)
  refine v_aload0 (pc := 0) K dX4_alike_0 ?_
  refine v_ic0 (pc := 1) K dX4_alike_1 ?_
  refine v_put (pc := 2) K fw_RX4_69 dX4_alike_2 rfl rfl (Nat.le_of_ble_eq_true rfl) rfl rfl ?_
  refine v_aload0 (pc := 5) K dX4_alike_5 ?_
  refine v_iload1 (pc := 6) K dX4_alike_6 ?_
  obtain ⟨v1, h2, h⟩ := bd h
  refine v_cV1I (pc := 7)  K ca_yX4_isRow ml_RX4_113 (Nat.le_of_ble_eq_true rfl) rfl rfl (t_X4_isRow _ K.nt K.ad (sI σ 0 0 (0 : Int32)) a0 v1 h2) (Nat.le_of_ble_eq_true rfl) (by decide) (by decide) dX4_alike_7 ?_
  refine v_if_eq (pc := 10) (tgt := 21) K dX4_alike_10 (by decide) (fun c3 => ?_) (fun c3 => ?_)
  · have h := it c3 h
    refine v_aload0 (pc := 21) K dX4_alike_21 ?_
    refine v_ic1 (pc := 22) K dX4_alike_22 ?_
    obtain ⟨v4, h5, h⟩ := bd h
    refine v_cV1I (pc := 23)  K ca_yX4_fails ml_RX4_105 (Nat.le_of_ble_eq_true rfl) rfl rfl (t_X4_fails _ K.nt K.ad (sI σ 0 0 (0 : Int32)) (1 : Int32) v4 h5) (Nat.le_of_ble_eq_true rfl) (by decide) (by decide) dX4_alike_23 ?_
    cases h
    exact v_iret (pc := 26) K dX4_alike_26 rfl rfl
  · have h := ie c3 h
    refine v_aload0 (pc := 13) K dX4_alike_13 ?_
    refine v_iload2 (pc := 14) K dX4_alike_14 ?_
    obtain ⟨v6, h7, h⟩ := bd h
    refine v_cV1I (pc := 15)  K ca_yX4_isRow ml_RX4_113 (Nat.le_of_ble_eq_true rfl) rfl rfl (t_X4_isRow _ K.nt K.ad (sI σ 0 0 (0 : Int32)) a1 v6 h7) (Nat.le_of_ble_eq_true rfl) (by decide) (by decide) dX4_alike_15 ?_
    refine v_if_ne (pc := 18) (tgt := 27) K dX4_alike_18 (by decide) (fun c8 => ?_) (fun c8 => ?_)
    · have h := ie c8 h
      refine v_aload0 (pc := 27) K dX4_alike_27 ?_
      refine v_iload1 (pc := 28) K dX4_alike_28 ?_
      refine v_iload2 (pc := 29) K dX4_alike_29 ?_
      obtain ⟨v9, h10, h⟩ := bd h
      refine v_cV2I (pc := 30)  K ca_yX4_areAlike ml_RX4_190 (Nat.le_of_ble_eq_true rfl) rfl rfl (t_X4_areAlike _ K.nt K.ad (sI σ 0 0 (0 : Int32)) a0 a1 v9 h10) (Nat.le_of_ble_eq_true rfl) (by decide) (by decide) dX4_alike_30 ?_
      obtain ⟨v11, h12, h⟩ := bd h
      refine v_cS1I (pc := 33)  K ca_yX4_flag ml_RX4_123 (t_X4_flag _ K.nt K.ad (sI σ 0 0 (0 : Int32)) v9 v11 h12) (Nat.le_of_ble_eq_true rfl) (by decide) (by decide) dX4_alike_33 ?_
      cases h
      exact v_iret (pc := 36) K dX4_alike_36 rfl rfl
    · have h := it c8 h
      refine v_aload0 (pc := 21) K dX4_alike_21 ?_
      refine v_ic1 (pc := 22) K dX4_alike_22 ?_
      obtain ⟨v13, h14, h⟩ := bd h
      refine v_cV1I (pc := 23)  K ca_yX4_fails ml_RX4_105 (Nat.le_of_ble_eq_true rfl) rfl rfl (t_X4_fails _ K.nt K.ad (sI σ 0 0 (0 : Int32)) (1 : Int32) v13 h14) (Nat.le_of_ble_eq_true rfl) (by decide) (by decide) dX4_alike_23 ?_
      cases h
      exact v_iret (pc := 26) K dX4_alike_26 rfl rfl
set_option maxRecDepth 100000 in
def m_X4_row (σ : St) (a0 : Int32) (a1 : Int32) : Option (Int32 × St) :=
  ((m_X4_isMask (sI σ 0 0 (0 : Int32)) a0).bind fun v1 => (if v1 = 0 then ((m_X4_fails (sI σ 0 0 (0 : Int32)) (1 : Int32)).bind fun v23 => some (v23.1, v23.2)) else (eB (lp 5000 (fun (s4 : Int32 × Int32) => (if (sI σ 0 0 (0 : Int32)).1 0 5 ≤ s4.2 then some (.inr (.inl s4.1)) else ((m_X4_at (sI σ 0 0 (0 : Int32)) a0 s4.2).bind fun v12 => ((ix v12 1536).bind fun j14 => (if (sI σ 0 0 (0 : Int32)).1 4 j14 = 0 then some (.inl (s4.1, (s4.2 + 1))) else (if s4.1 = a1 then some (.inr (.inr (s4.2, (sI σ 0 0 (0 : Int32))))) else some (.inl ((s4.1 + 1), (s4.2 + 1))))))))) ((0 : Int32), (0 : Int32))) fun (r5 : Int32) => ((if a1 = ((-1) : Int32) then some r5 else some ((-1) : Int32)).bind fun (t18 : Int32) => some (t18, (sI σ 0 0 (0 : Int32)))))))
set_option maxHeartbeats 4000000 in
set_option maxRecDepth 100000 in
theorem t_X4_row (l : Launch) (hnt : l.stackTraces = false) {E : Ev} {base : Nat} (hE : Adr YM E base) (σ : St) (a0 : Int32) (a1 : Int32) (r : Int32 × St) (h : m_X4_row σ a0 a1 = some r) : Ctr l yX4_row cX4_row 5 (some .int) 2 45 YM E base [.ref (E.2.2 0), .int a0, .int a1] σ (.ok (some (.int r.1))) r.2 := by
  unfold m_X4_row at h
  refine ofV 2 (by decide +kernel) rfl hE hnt (Nat.le_of_ble_eq_true rfl) rfl (fun M hN K => ?_)
  refine v_aload0 (pc := 0) K dX4_row_0 ?_
  refine v_ic0 (pc := 1) K dX4_row_1 ?_
  refine v_put (pc := 2) K fw_RX4_69 dX4_row_2 rfl rfl (Nat.le_of_ble_eq_true rfl) rfl rfl ?_
  refine v_iload1 (pc := 5) K dX4_row_5 ?_
  obtain ⟨v1, h2, h⟩ := bd h
  refine v_cS1I (pc := 6)  K ca_yX4_isMask ml_RX4_91 (t_X4_isMask _ K.nt K.ad (sI σ 0 0 (0 : Int32)) a0 v1 h2) (Nat.le_of_ble_eq_true rfl) (by decide) (by decide) dX4_row_6 ?_
  refine v_if_ne (pc := 9) (tgt := 18) K dX4_row_9 (by decide) (fun c3 => ?_) (fun c3 => ?_)
  · have h := ie c3 h
    refine v_ic0 (pc := 18) K dX4_row_18 ?_
    refine v_istore3 (pc := 19) K dX4_row_19 rfl (Nat.le_of_ble_eq_true rfl) ?_
    refine v_ic0 (pc := 20) K dX4_row_20 ?_
    refine v_istore4 (pc := 21) K dX4_row_21 rfl (Nat.le_of_ble_eq_true rfl) ?_
    obtain ⟨w10, h7, hi8, hq9⟩ := eb h
    have hJ6 : ∀ r5 : Int32, w10 = .inl r5 → V (mkX M YM E base 5 (.ok (some (.int r.1))) r.2) (sI σ 0 0 (0 : Int32)) 66 [none, none, some (.int a1), some (.int r5), none] [] := by
      intro r5 ha
      have h := hi8 _ ha
      refine v_iload2 (pc := 66) K dX4_row_66 ?_
      refine v_icm1 (pc := 67) K dX4_row_67 ?_
      obtain ⟨t18, h20, h⟩ := bd h
      have hJ19 : V (mkX M YM E base 5 (.ok (some (.int r.1))) r.2) (sI σ 0 0 (0 : Int32)) 76 [none, none, none, none, none] [.int t18] := by
        cases h
        exact v_iret (pc := 76) K dX4_row_76 rfl rfl
      clear h
      have h := h20
      refine v_icmp_ne (pc := 68) (tgt := 75) K dX4_row_68 (by decide) (fun c21 => ?_) (fun c21 => ?_)
      · have h := ie c21 h
        refine v_icm1 (pc := 75) K dX4_row_75 ?_
        cases h
        exact (v_fg [true, true, false, false, true] hJ19)
      · have h := it c21 h
        refine v_iload3 (pc := 71) K dX4_row_71 ?_
        refine v_goto (pc := 72) (tgt := 76) K dX4_row_72 (by decide) ?_
        cases h
        exact (v_fg [true, true, false, false, true] hJ19)
    clear h
    have hL22 := lpv h7 (fun s4 : Int32 × Int32 => V (mkX M YM E base 5 (.ok (some (.int r.1))) r.2) (sI σ 0 0 (0 : Int32)) 23 [some (.ref (E.2.2 0)), some (.int a0), some (.int a1), some (.int s4.1), some (.int s4.2)] [])
    refine hL22 (fun s4 o h hk => ?_)
    refine v_iload4 (pc := 23) K dX4_row_23 ?_
    refine v_aload0 (pc := 25) K dX4_row_25 ?_
    refine v_getI (pc := 26) K fl_RX4_80 dX4_row_26 (Nat.le_of_ble_eq_true rfl) rfl rfl ?_
    refine v_icmp_ge (pc := 29) (tgt := 66) K dX4_row_29 (by decide) (fun c11 => ?_) (fun c11 => ?_)
    · have h := it c11 h
      have e := lx h hk
      exact v_fg [false, false, true, true, false] (hJ6 _ e.symm)
    · have h := ie c11 h
      refine v_aload0 (pc := 32) K dX4_row_32 ?_
      refine v_getR (pc := 33) K fl_RX4_21 dX4_row_33 (Nat.le_of_ble_eq_true rfl) rfl rfl ?_
      refine v_iload1 (pc := 36) K dX4_row_36 ?_
      refine v_iload4 (pc := 37) K dX4_row_37 ?_
      obtain ⟨v12, h13, h⟩ := bd h
      refine v_cS2I (pc := 39)  K ca_yX4_at ml_RX4_94 (t_X4_at _ K.nt K.ad (sI σ 0 0 (0 : Int32)) a0 s4.2 v12 h13) (Nat.le_of_ble_eq_true rfl) (by decide) (by decide) dX4_row_39 ?_
      obtain ⟨j14, h15, h⟩ := bd h
      refine v_zaload (pc := 42) K dX4_row_42 (Nat.le_of_ble_eq_true rfl) rfl h15 ?_
      refine v_if_ne (pc := 43) (tgt := 49) K dX4_row_43 (by decide) (fun c16 => ?_) (fun c16 => ?_)
      · have h := ie c16 h
        refine v_iload3 (pc := 49) K dX4_row_49 ?_
        refine v_iload2 (pc := 50) K dX4_row_50 ?_
        refine v_icmp_ne (pc := 51) (tgt := 57) K dX4_row_51 (by decide) (fun c17 => ?_) (fun c17 => ?_)
        · have h := ie c17 h
          refine v_iinc3 (pc := 57) (w := 1) K dX4_row_57 rfl (Nat.le_of_ble_eq_true rfl) (by decide) ?_
          refine v_iinc4 (pc := 60) (w := 1) K dX4_row_60 rfl (Nat.le_of_ble_eq_true rfl) (by decide) ?_
          refine v_goto (pc := 63) (tgt := 23) K dX4_row_63 (by decide) ?_
          have e := lfc h hk
          exact e
        · have h := it c17 h
          refine v_iload4 (pc := 54) K dX4_row_54 ?_
          have h := congrArg some (hq9 _ (lx h hk).symm)
          cases h
          exact v_iret (pc := 56) K dX4_row_56 rfl rfl
      · have h := it c16 h
        refine v_goto (pc := 46) (tgt := 60) K dX4_row_46 (by decide) ?_
        refine v_iinc4 (pc := 60) (w := 1) K dX4_row_60 rfl (Nat.le_of_ble_eq_true rfl) (by decide) ?_
        refine v_goto (pc := 63) (tgt := 23) K dX4_row_63 (by decide) ?_
        have e := lfc h hk
        exact e
  · have h := it c3 h
    refine v_aload0 (pc := 12) K dX4_row_12 ?_
    refine v_ic1 (pc := 13) K dX4_row_13 ?_
    obtain ⟨v23, h24, h⟩ := bd h
    refine v_cV1I (pc := 14)  K ca_yX4_fails ml_RX4_105 (Nat.le_of_ble_eq_true rfl) rfl rfl (t_X4_fails _ K.nt K.ad (sI σ 0 0 (0 : Int32)) (1 : Int32) v23 h24) (Nat.le_of_ble_eq_true rfl) (by decide) (by decide) dX4_row_14 ?_
    cases h
    exact v_iret (pc := 17) K dX4_row_17 rfl rfl
set_option maxRecDepth 100000 in
def m_X4_word (σ : St) (a0 : Int32) (a1 : Int32) : Option (Int64 × St) :=
  ((m_X4_isMask (sI σ 0 0 (0 : Int32)) a0).bind fun v1 => (if v1 = 0 then ((m_X4_fails (sI σ 0 0 (0 : Int32)) (1 : Int32)).bind fun v4 => some ((v4.1).toInt64, v4.2)) else ((m_X4_isWord (sI σ 0 0 (0 : Int32)) a1).bind fun v6 => (if v6 = 0 then ((m_X4_fails (sI σ 0 0 (0 : Int32)) (1 : Int32)).bind fun v26 => some ((v26.1).toInt64, v26.2)) else ((lp 5000 (fun (s9 : Int64 × Int32) => (if (64 : Int32) ≤ s9.2 then some (.inr s9.1) else ((m_X4_at (sI σ 0 0 (0 : Int32)) a0 (((64 : Int32) * a1) + s9.2)).bind fun v17 => ((ix v17 1536).bind fun j19 => ((if (sI σ 0 0 (0 : Int32)).1 4 j19 = 0 then some s9.1 else some (s9.1 ||| ((1 : Int64) <<< ((s9.2).toInt64 &&& 63)))).bind fun (t21 : Int64) => some (.inl (t21, (s9.2 + 1)))))))) ((0 : Int64), (0 : Int32))).bind fun (r10 : Int64) => some (r10, (sI σ 0 0 (0 : Int32))))))))
set_option maxHeartbeats 4000000 in
set_option maxRecDepth 100000 in
theorem t_X4_word (l : Launch) (hnt : l.stackTraces = false) {E : Ev} {base : Nat} (hE : Adr YM E base) (σ : St) (a0 : Int32) (a1 : Int32) (r : Int64 × St) (h : m_X4_word σ a0 a1 = some r) : Ctr l yX4_word cX4_word 6 (some .long) 2 45 YM E base [.ref (E.2.2 0), .int a0, .int a1] σ (.ok (some (.long r.1))) r.2 := by
  unfold m_X4_word at h
  refine ofV 3 (by decide +kernel) rfl hE hnt (Nat.le_of_ble_eq_true rfl) rfl (fun M hN K => ?_)
  refine v_aload0 (pc := 0) K dX4_word_0 ?_
  refine v_ic0 (pc := 1) K dX4_word_1 ?_
  refine v_put (pc := 2) K fw_RX4_69 dX4_word_2 rfl rfl (Nat.le_of_ble_eq_true rfl) rfl rfl ?_
  refine v_iload1 (pc := 5) K dX4_word_5 ?_
  obtain ⟨v1, h2, h⟩ := bd h
  refine v_cS1I (pc := 6)  K ca_yX4_isMask ml_RX4_91 (t_X4_isMask _ K.nt K.ad (sI σ 0 0 (0 : Int32)) a0 v1 h2) (Nat.le_of_ble_eq_true rfl) (by decide) (by decide) dX4_word_6 ?_
  refine v_if_eq (pc := 9) (tgt := 19) K dX4_word_9 (by decide) (fun c3 => ?_) (fun c3 => ?_)
  · have h := it c3 h
    refine v_aload0 (pc := 19) K dX4_word_19 ?_
    refine v_ic1 (pc := 20) K dX4_word_20 ?_
    obtain ⟨v4, h5, h⟩ := bd h
    refine v_cV1I (pc := 21)  K ca_yX4_fails ml_RX4_105 (Nat.le_of_ble_eq_true rfl) rfl rfl (t_X4_fails _ K.nt K.ad (sI σ 0 0 (0 : Int32)) (1 : Int32) v4 h5) (Nat.le_of_ble_eq_true rfl) (by decide) (by decide) dX4_word_21 ?_
    refine v_i2l (pc := 24) K dX4_word_24 ?_
    cases h
    exact v_lret (pc := 25) K dX4_word_25 rfl rfl
  · have h := ie c3 h
    refine v_iload2 (pc := 12) K dX4_word_12 ?_
    obtain ⟨v6, h7, h⟩ := bd h
    refine v_cS1I (pc := 13)  K ca_yX4_isWord ml_RX4_152 (t_X4_isWord _ K.nt K.ad (sI σ 0 0 (0 : Int32)) a1 v6 h7) (Nat.le_of_ble_eq_true rfl) (by decide) (by decide) dX4_word_13 ?_
    refine v_if_ne (pc := 16) (tgt := 26) K dX4_word_16 (by decide) (fun c8 => ?_) (fun c8 => ?_)
    · have h := ie c8 h
      refine v_lc0 (pc := 26) K dX4_word_26 ?_
      refine v_lstore3 (pc := 27) K dX4_word_27 rfl (Nat.le_of_ble_eq_true rfl) ?_
      refine v_ic0 (pc := 28) K dX4_word_28 ?_
      refine v_istore5 (pc := 29) K dX4_word_29 rfl (Nat.le_of_ble_eq_true rfl) ?_
      obtain ⟨r10, h12, h⟩ := bd h
      have hJ11 : V (mkX M YM E base 6 (.ok (some (.long r.1))) r.2) (sI σ 0 0 (0 : Int32)) 70 [none, none, none, some (.long r10), none, none] [] := by
        refine v_lload3 (pc := 70) K dX4_word_70 ?_
        cases h
        exact v_lret (pc := 71) K dX4_word_71 rfl rfl
      clear h
      have hL25 := lpv h12 (fun s9 : Int64 × Int32 => V (mkX M YM E base 6 (.ok (some (.long r.1))) r.2) (sI σ 0 0 (0 : Int32)) 31 [some (.ref (E.2.2 0)), some (.int a0), some (.int a1), some (.long s9.1), none, some (.int s9.2)] [])
      refine hL25 (fun s9 o h hk => ?_)
      refine v_iload5 (pc := 31) K dX4_word_31 ?_
      refine v_bipush (pc := 33) (v := 64) K dX4_word_33 (by decide) ?_
      refine v_icmp_ge (pc := 35) (tgt := 70) K dX4_word_35 (by decide) (fun c16 => ?_) (fun c16 => ?_)
      · have h := it c16 h
        have e := lx h hk
        cases e
        exact v_fg [false, false, false, true, true, false] hJ11
      · have h := ie c16 h
        refine v_aload0 (pc := 38) K dX4_word_38 ?_
        refine v_getR (pc := 39) K fl_RX4_21 dX4_word_39 (Nat.le_of_ble_eq_true rfl) rfl rfl ?_
        refine v_iload1 (pc := 42) K dX4_word_42 ?_
        refine v_bipush (pc := 43) (v := 64) K dX4_word_43 (by decide) ?_
        refine v_iload2 (pc := 45) K dX4_word_45 ?_
        refine v_imul (pc := 46) K dX4_word_46 ?_
        refine v_iload5 (pc := 47) K dX4_word_47 ?_
        refine v_iadd (pc := 49) K dX4_word_49 ?_
        obtain ⟨v17, h18, h⟩ := bd h
        refine v_cS2I (pc := 50)  K ca_yX4_at ml_RX4_94 (t_X4_at _ K.nt K.ad (sI σ 0 0 (0 : Int32)) a0 (((64 : Int32) * a1) + s9.2) v17 h18) (Nat.le_of_ble_eq_true rfl) (by decide) (by decide) dX4_word_50 ?_
        obtain ⟨j19, h20, h⟩ := bd h
        refine v_zaload (pc := 53) K dX4_word_53 (Nat.le_of_ble_eq_true rfl) rfl h20 ?_
        obtain ⟨t21, h23, h⟩ := bd h
        have hJ22 : V (mkX M YM E base 6 (.ok (some (.long r.1))) r.2) (sI σ 0 0 (0 : Int32)) 64 [some (.ref (E.2.2 0)), some (.int a0), some (.int a1), some (.long t21), none, some (.int s9.2)] [] := by
          refine v_iinc5 (pc := 64) (w := 1) K dX4_word_64 rfl (Nat.le_of_ble_eq_true rfl) (by decide) ?_
          refine v_goto (pc := 67) (tgt := 31) K dX4_word_67 (by decide) ?_
          have e := lfc h hk
          exact e
        clear h
        have h := h23
        refine v_if_eq (pc := 54) (tgt := 64) K dX4_word_54 (by decide) (fun c24 => ?_) (fun c24 => ?_)
        · have h := it c24 h
          cases h
          exact hJ22
        · have h := ie c24 h
          refine v_lload3 (pc := 57) K dX4_word_57 ?_
          refine v_lc1 (pc := 58) K dX4_word_58 ?_
          refine v_iload5 (pc := 59) K dX4_word_59 ?_
          refine v_lshl (pc := 61) K dX4_word_61 ?_
          refine v_lor (pc := 62) K dX4_word_62 ?_
          refine v_lstore3 (pc := 63) K dX4_word_63 rfl (Nat.le_of_ble_eq_true rfl) ?_
          cases h
          exact hJ22
    · have h := it c8 h
      refine v_aload0 (pc := 19) K dX4_word_19 ?_
      refine v_ic1 (pc := 20) K dX4_word_20 ?_
      obtain ⟨v26, h27, h⟩ := bd h
      refine v_cV1I (pc := 21)  K ca_yX4_fails ml_RX4_105 (Nat.le_of_ble_eq_true rfl) rfl rfl (t_X4_fails _ K.nt K.ad (sI σ 0 0 (0 : Int32)) (1 : Int32) v26 h27) (Nat.le_of_ble_eq_true rfl) (by decide) (by decide) dX4_word_21 ?_
      refine v_i2l (pc := 24) K dX4_word_24 ?_
      cases h
      exact v_lret (pc := 25) K dX4_word_25 rfl rfl
set_option maxRecDepth 100000 in
def m_X4_lists (σ : St) (a0 : Int32) (a1 : Int32) : Option (St) :=
  ((lp 5000 (fun (s1 : Int32 × St) => (if s1.2.1 0 5 ≤ s1.1 then some (.inr s1.2) else ((m_X4_hasUnder s1.2 a0 s1.1 a1).bind fun v9 => ((if v9 = 0 then some s1.2 else ((m_X4_at s1.2 a0 s1.1).bind fun v15 => ((ix v15 1152).bind fun j17 => ((lp 5000 (fun (s19 : Int32 × St) => (if s19.1 ≤ 0 then some (.inr (s19.1, s19.2)) else ((ix (s19.1 - (1 : Int32)) 192).bind fun j27 => (if s19.2.2 6 j27 ≤ s1.2.2 1 j17 then some (.inr (s19.1, s19.2)) else ((ix (s19.1 - (1 : Int32)) 192).bind fun j30 => ((ix s19.1 192).bind fun j32 => some (.inl ((s19.1 + (-1)), (sL s19.2 6 j32 (s19.2.2 6 j30)))))))))) (s1.2.1 0 10, s1.2)).bind fun (r20 : Int32 × St) => ((ix r20.1 192).bind fun j34 => some (sI (sL r20.2 6 j34 (s1.2.2 1 j17)) 0 10 ((sL r20.2 6 j34 (s1.2.2 1 j17)).1 0 10 + (1 : Int32)))))))).bind fun (t11 : St) => some (.inl ((s1.1 + 1), t11)))))) ((0 : Int32), (sI σ 0 10 (0 : Int32)))).bind fun (r2 : St) => some r2)
set_option maxHeartbeats 4000000 in
set_option maxRecDepth 100000 in
theorem t_X4_lists (l : Launch) (hnt : l.stackTraces = false) {E : Ev} {base : Nat} (hE : Adr YM E base) (σ : St) (a0 : Int32) (a1 : Int32) (r : St) (h : m_X4_lists σ a0 a1 = some r) : Ctr l yX4_lists cX4_lists 7 none 2 44 YM E base [.ref (E.2.2 0), .int a0, .int a1] σ (.ok none) r := by
  unfold m_X4_lists at h
  refine ofV 4 (by decide +kernel) rfl hE hnt (Nat.le_of_ble_eq_true rfl) rfl (fun M hN K => ?_)
  refine v_aload0 (pc := 0) K dX4_lists_0 ?_
  refine v_ic0 (pc := 1) K dX4_lists_1 ?_
  refine v_put (pc := 2) K fw_RX4_196 dX4_lists_2 rfl rfl (Nat.le_of_ble_eq_true rfl) rfl rfl ?_
  refine v_ic0 (pc := 5) K dX4_lists_5 ?_
  refine v_istore3 (pc := 6) K dX4_lists_6 rfl (Nat.le_of_ble_eq_true rfl) ?_
  obtain ⟨r2, h4, h⟩ := bd h
  have hJ3 : V (mkX M YM E base 7 (.ok none) r) r2 113 [none, none, none, none, none, none, none] [] := by
    cases h
    exact v_vret (pc := 113) K dX4_lists_113 rfl rfl
  clear h
  have hL37 := lpv h4 (fun s1 : Int32 × St => V (mkX M YM E base 7 (.ok none) r) s1.2 7 [some (.ref (E.2.2 0)), some (.int a0), some (.int a1), some (.int s1.1), none, none, none] [])
  refine hL37 (fun s1 o h hk => ?_)
  refine v_iload3 (pc := 7) K dX4_lists_7 ?_
  refine v_aload0 (pc := 8) K dX4_lists_8 ?_
  refine v_getI (pc := 9) K fl_RX4_80 dX4_lists_9 (Nat.le_of_ble_eq_true rfl) rfl rfl ?_
  refine v_icmp_ge (pc := 12) (tgt := 113) K dX4_lists_12 (by decide) (fun c8 => ?_) (fun c8 => ?_)
  · have h := it c8 h
    have e := lx h hk
    cases e
    exact v_fg [false, false, false, false, true, true, true] hJ3
  · have h := ie c8 h
    refine v_aload0 (pc := 15) K dX4_lists_15 ?_
    refine v_iload1 (pc := 16) K dX4_lists_16 ?_
    refine v_iload3 (pc := 17) K dX4_lists_17 ?_
    refine v_iload2 (pc := 18) K dX4_lists_18 ?_
    obtain ⟨v9, h10, h⟩ := bd h
    refine v_cV3I (pc := 19)  K ca_yX4_hasUnder ml_RX4_170 (Nat.le_of_ble_eq_true rfl) rfl rfl (t_X4_hasUnder _ K.nt K.ad s1.2 a0 s1.1 a1 v9 h10) (Nat.le_of_ble_eq_true rfl) (by decide) (by decide) dX4_lists_19 ?_
    obtain ⟨t11, h13, h⟩ := bd h
    have hJ12 : V (mkX M YM E base 7 (.ok none) r) t11 107 [some (.ref (E.2.2 0)), some (.int a0), some (.int a1), some (.int s1.1), none, none, none] [] := by
      refine v_iinc3 (pc := 107) (w := 1) K dX4_lists_107 rfl (Nat.le_of_ble_eq_true rfl) (by decide) ?_
      refine v_goto (pc := 110) (tgt := 7) K dX4_lists_110 (by decide) ?_
      have e := lfc h hk
      exact e
    clear h
    have h := h13
    refine v_if_ne (pc := 22) (tgt := 28) K dX4_lists_22 (by decide) (fun c14 => ?_) (fun c14 => ?_)
    · have h := ie c14 h
      refine v_aload0 (pc := 28) K dX4_lists_28 ?_
      refine v_getI (pc := 29) K fl_RX4_196 dX4_lists_29 (Nat.le_of_ble_eq_true rfl) rfl rfl ?_
      refine v_istore4 (pc := 32) K dX4_lists_32 rfl (Nat.le_of_ble_eq_true rfl) ?_
      refine v_aload0 (pc := 34) K dX4_lists_34 ?_
      refine v_getR (pc := 35) K fl_RX4_7 dX4_lists_35 (Nat.le_of_ble_eq_true rfl) rfl rfl ?_
      refine v_iload1 (pc := 38) K dX4_lists_38 ?_
      refine v_iload3 (pc := 39) K dX4_lists_39 ?_
      obtain ⟨v15, h16, h⟩ := bd h
      refine v_cS2I (pc := 40)  K ca_yX4_at ml_RX4_94 (t_X4_at _ K.nt K.ad s1.2 a0 s1.1 v15 h16) (Nat.le_of_ble_eq_true rfl) (by decide) (by decide) dX4_lists_40 ?_
      obtain ⟨j17, h18, h⟩ := bd h
      refine v_laload (pc := 43) K dX4_lists_43 (Nat.le_of_ble_eq_true rfl) rfl h18 ?_
      refine v_lstore5 (pc := 44) K dX4_lists_44 rfl (Nat.le_of_ble_eq_true rfl) ?_
      obtain ⟨r20, h22, h⟩ := bd h
      have hJ21 : V (mkX M YM E base 7 (.ok none) r) r20.2 88 [some (.ref (E.2.2 0)), some (.int a0), some (.int a1), some (.int s1.1), some (.int r20.1), some (.long (s1.2.2 1 j17)), none] [] := by
        refine v_aload0 (pc := 88) K dX4_lists_88 ?_
        refine v_getR (pc := 89) K fl_RX4_27 dX4_lists_89 (Nat.le_of_ble_eq_true rfl) rfl rfl ?_
        refine v_iload4 (pc := 92) K dX4_lists_92 ?_
        refine v_lload5 (pc := 94) K dX4_lists_94 ?_
        obtain ⟨j34, h35, h⟩ := bd h
        refine v_lastore (pc := 96) K dX4_lists_96 (Nat.le_of_ble_eq_true rfl) rfl h35 ?_
        refine v_aload0 (pc := 97) K dX4_lists_97 ?_
        refine v_dupR (pc := 98) K dX4_lists_98 ?_
        refine v_getI (pc := 99) K fl_RX4_196 dX4_lists_99 (Nat.le_of_ble_eq_true rfl) rfl rfl ?_
        refine v_ic1 (pc := 102) K dX4_lists_102 ?_
        refine v_iadd (pc := 103) K dX4_lists_103 ?_
        refine v_put (pc := 104) K fw_RX4_196 dX4_lists_104 rfl rfl (Nat.le_of_ble_eq_true rfl) rfl rfl ?_
        cases h
        exact (v_fg [true, true, true, true, false, false, true] hJ12)
      clear h
      have hL36 := lpv h22 (fun s19 : Int32 × St => V (mkX M YM E base 7 (.ok none) r) s19.2 46 [some (.ref (E.2.2 0)), some (.int a0), some (.int a1), some (.int s1.1), some (.int s19.1), some (.long (s1.2.2 1 j17)), none] [])
      refine hL36 (fun s19 o h hk => ?_)
      refine v_iload4 (pc := 46) K dX4_lists_46 ?_
      refine v_if_le (pc := 48) (tgt := 88) K dX4_lists_48 (by decide) (fun c26 => ?_) (fun c26 => ?_)
      · have h := it c26 h
        have e := lx h hk
        cases e
        exact hJ21
      · have h := ie c26 h
        refine v_aload0 (pc := 51) K dX4_lists_51 ?_
        refine v_getR (pc := 52) K fl_RX4_27 dX4_lists_52 (Nat.le_of_ble_eq_true rfl) rfl rfl ?_
        refine v_iload4 (pc := 55) K dX4_lists_55 ?_
        refine v_ic1 (pc := 57) K dX4_lists_57 ?_
        refine v_isub (pc := 58) K dX4_lists_58 ?_
        obtain ⟨j27, h28, h⟩ := bd h
        refine v_laload (pc := 59) K dX4_lists_59 (Nat.le_of_ble_eq_true rfl) rfl h28 ?_
        refine v_lload5 (pc := 60) K dX4_lists_60 ?_
        refine v_lc_le (pc := 62) (tgt := 88) K dX4_lists_62 dX4_lists_63 (by decide) (fun c29 => ?_) (fun c29 => ?_)
        · have h := it c29 h
          have e := lx h hk
          cases e
          exact hJ21
        · have h := ie c29 h
          refine v_aload0 (pc := 66) K dX4_lists_66 ?_
          refine v_getR (pc := 67) K fl_RX4_27 dX4_lists_67 (Nat.le_of_ble_eq_true rfl) rfl rfl ?_
          refine v_iload4 (pc := 70) K dX4_lists_70 ?_
          refine v_aload0 (pc := 72) K dX4_lists_72 ?_
          refine v_getR (pc := 73) K fl_RX4_27 dX4_lists_73 (Nat.le_of_ble_eq_true rfl) rfl rfl ?_
          refine v_iload4 (pc := 76) K dX4_lists_76 ?_
          refine v_ic1 (pc := 78) K dX4_lists_78 ?_
          refine v_isub (pc := 79) K dX4_lists_79 ?_
          obtain ⟨j30, h31, h⟩ := bd h
          refine v_laload (pc := 80) K dX4_lists_80 (Nat.le_of_ble_eq_true rfl) rfl h31 ?_
          obtain ⟨j32, h33, h⟩ := bd h
          refine v_lastore (pc := 81) K dX4_lists_81 (Nat.le_of_ble_eq_true rfl) rfl h33 ?_
          refine v_iinc4 (pc := 82) (w := (-1)) K dX4_lists_82 rfl (Nat.le_of_ble_eq_true rfl) (by decide) ?_
          refine v_goto (pc := 85) (tgt := 46) K dX4_lists_85 (by decide) ?_
          have e := lfc h hk
          exact e
    · have h := it c14 h
      refine v_goto (pc := 25) (tgt := 107) K dX4_lists_25 (by decide) ?_
      cases h
      exact hJ12
set_option maxRecDepth 100000 in
def m_X4_count (σ : St) (a0 : Int32) (a1 : Int32) : Option (Int32 × St) :=
  ((m_X4_areIn (sI σ 0 0 (0 : Int32)) a0 a1).bind fun v1 => (if v1 = 0 then ((m_X4_fails (sI σ 0 0 (0 : Int32)) (1 : Int32)).bind fun v6 => some (v6.1, v6.2)) else ((m_X4_lists (sI σ 0 0 (0 : Int32)) a0 a1).bind fun v4 => some (v4.1 0 10, v4))))
set_option maxHeartbeats 4000000 in
set_option maxRecDepth 100000 in
theorem t_X4_count (l : Launch) (hnt : l.stackTraces = false) {E : Ev} {base : Nat} (hE : Adr YM E base) (σ : St) (a0 : Int32) (a1 : Int32) (r : Int32 × St) (h : m_X4_count σ a0 a1 = some r) : Ctr l yX4_count cX4_count 3 (some .int) 3 70 YM E base [.ref (E.2.2 0), .int a0, .int a1] σ (.ok (some (.int r.1))) r.2 := by
  unfold m_X4_count at h
  refine ofV 0 (by decide +kernel) rfl hE hnt (Nat.le_of_ble_eq_true rfl) rfl (fun M hN K => ?_)
  refine v_aload0 (pc := 0) K dX4_count_0 ?_
  refine v_ic0 (pc := 1) K dX4_count_1 ?_
  refine v_put (pc := 2) K fw_RX4_69 dX4_count_2 rfl rfl (Nat.le_of_ble_eq_true rfl) rfl rfl ?_
  refine v_aload0 (pc := 5) K dX4_count_5 ?_
  refine v_iload1 (pc := 6) K dX4_count_6 ?_
  refine v_iload2 (pc := 7) K dX4_count_7 ?_
  obtain ⟨v1, h2, h⟩ := bd h
  refine v_cV2I (pc := 8)  K ca_yX4_areIn ml_RX4_164 (Nat.le_of_ble_eq_true rfl) rfl rfl (t_X4_areIn _ K.nt K.ad (sI σ 0 0 (0 : Int32)) a0 a1 v1 h2) (Nat.le_of_ble_eq_true rfl) (by decide) (by decide) dX4_count_8 ?_
  refine v_if_ne (pc := 11) (tgt := 20) K dX4_count_11 (by decide) (fun c3 => ?_) (fun c3 => ?_)
  · have h := ie c3 h
    refine v_aload0 (pc := 20) K dX4_count_20 ?_
    refine v_iload1 (pc := 21) K dX4_count_21 ?_
    refine v_iload2 (pc := 22) K dX4_count_22 ?_
    obtain ⟨v4, h5, h⟩ := bd h
    refine v_cV2U (pc := 23)  K ca_yX4_lists ml_RX4_199 (Nat.le_of_ble_eq_true rfl) rfl rfl (t_X4_lists _ K.nt K.ad (sI σ 0 0 (0 : Int32)) a0 a1 v4 h5) (Nat.le_of_ble_eq_true rfl) (by decide) (by decide) dX4_count_23 ?_
    refine v_aload0 (pc := 26) K dX4_count_26 ?_
    refine v_getI (pc := 27) K fl_RX4_196 dX4_count_27 (Nat.le_of_ble_eq_true rfl) rfl rfl ?_
    cases h
    exact v_iret (pc := 30) K dX4_count_30 rfl rfl
  · have h := it c3 h
    refine v_aload0 (pc := 14) K dX4_count_14 ?_
    refine v_ic1 (pc := 15) K dX4_count_15 ?_
    obtain ⟨v6, h7, h⟩ := bd h
    refine v_cV1I (pc := 16)  K ca_yX4_fails ml_RX4_105 (Nat.le_of_ble_eq_true rfl) rfl rfl (t_X4_fails _ K.nt K.ad (sI σ 0 0 (0 : Int32)) (1 : Int32) v6 h7) (Nat.le_of_ble_eq_true rfl) (by decide) (by decide) dX4_count_16 ?_
    cases h
    exact v_iret (pc := 19) K dX4_count_19 rfl rfl
set_option maxRecDepth 100000 in
def m_X4_noSum (σ : St) : Option (St) :=
  ((lp 5000 (fun (s1 : Int32 × St) => (if (6 : Int32) ≤ s1.1 then some (.inr s1.2) else ((ix s1.1 6).bind fun j9 => some (.inl ((s1.1 + 1), (sL s1.2 7 j9 (0 : Int64))))))) ((0 : Int32), σ)).bind fun (r2 : St) => some r2)
set_option maxHeartbeats 4000000 in
set_option maxRecDepth 100000 in
theorem t_X4_noSum (l : Launch) (hnt : l.stackTraces = false) {E : Ev} {base : Nat} (hE : Adr YM E base) (σ : St) (r : St) (h : m_X4_noSum σ = some r) : Ctr l yX4_noSum cX4_noSum 2 none 0 0 YM E base [.ref (E.2.2 0)] σ (.ok none) r := by
  unfold m_X4_noSum at h
  refine ofV 1 (by decide +kernel) rfl hE hnt (Nat.le_of_ble_eq_true rfl) rfl (fun M hN K => ?_)
  refine v_ic0 (pc := 0) K dX4_noSum_0 ?_
  refine v_istore1 (pc := 1) K dX4_noSum_1 rfl (Nat.le_of_ble_eq_true rfl) ?_
  obtain ⟨r2, h4, h⟩ := bd h
  have hJ3 : V (mkX M YM E base 2 (.ok none) r) r2 21 [none, none] [] := by
    cases h
    exact v_vret (pc := 21) K dX4_noSum_21 rfl rfl
  clear h
  have hL11 := lpv h4 (fun s1 : Int32 × St => V (mkX M YM E base 2 (.ok none) r) s1.2 2 [some (.ref (E.2.2 0)), some (.int s1.1)] [])
  refine hL11 (fun s1 o h hk => ?_)
  refine v_iload1 (pc := 2) K dX4_noSum_2 ?_
  refine v_bipush (pc := 3) (v := 6) K dX4_noSum_3 (by decide) ?_
  refine v_icmp_ge (pc := 5) (tgt := 21) K dX4_noSum_5 (by decide) (fun c8 => ?_) (fun c8 => ?_)
  · have h := it c8 h
    have e := lx h hk
    cases e
    exact v_fg [false, false] hJ3
  · have h := ie c8 h
    refine v_aload0 (pc := 8) K dX4_noSum_8 ?_
    refine v_getR (pc := 9) K fl_RX4_30 dX4_noSum_9 (Nat.le_of_ble_eq_true rfl) rfl rfl ?_
    refine v_iload1 (pc := 12) K dX4_noSum_12 ?_
    refine v_lc0 (pc := 13) K dX4_noSum_13 ?_
    obtain ⟨j9, h10, h⟩ := bd h
    refine v_lastore (pc := 14) K dX4_noSum_14 (Nat.le_of_ble_eq_true rfl) rfl h10 ?_
    refine v_iinc1 (pc := 15) (w := 1) K dX4_noSum_15 rfl (Nat.le_of_ble_eq_true rfl) (by decide) ?_
    refine v_goto (pc := 18) (tgt := 2) K dX4_noSum_18 (by decide) ?_
    have e := lfc h hk
    exact e
set_option maxRecDepth 100000 in
def m_X4_amountOf (σ : St) (a0 : Int64) : Option (Int64) :=
  ((if (0 : Int64) ≤ a0 then some a0 else some (-a0)).bind fun (t1 : Int64) => some t1)
set_option maxHeartbeats 4000000 in
set_option maxRecDepth 100000 in
theorem t_X4_amountOf (l : Launch) (hnt : l.stackTraces = false) {E : Ev} {base : Nat} (hE : Adr YM E base) (σ : St) (a0 : Int64) (r : Int64) (h : m_X4_amountOf σ a0 = some r) : Ctr l yX4_amountOf cX4_amountOf 2 (some .long) 0 0 YM E base [.long a0] σ (.ok (some (.long r))) σ := by
  unfold m_X4_amountOf at h
  refine ofV 0 (by decide +kernel) rfl hE hnt (Nat.le_of_ble_eq_true rfl) rfl (fun M hN K => ?_)
  refine v_lload0 (pc := 0) K dX4_amountOf_0 ?_
  refine v_lc0 (pc := 1) K dX4_amountOf_1 ?_
  obtain ⟨t1, h3, h⟩ := bd h
  have hJ2 : V (mkX M YM E base 2 (.ok (some (.long r))) σ) σ 12 [none, none] [.long t1] := by
    cases h
    exact v_lret (pc := 12) K dX4_amountOf_12 rfl rfl
  clear h
  have h := h3
  refine v_lc_ge (pc := 2) (tgt := 11) K dX4_amountOf_2 dX4_amountOf_3 (by decide) (fun c4 => ?_) (fun c4 => ?_)
  · have h := it c4 h
    refine v_lload0 (pc := 11) K dX4_amountOf_11 ?_
    cases h
    exact (v_fg [false, true] hJ2)
  · have h := ie c4 h
    refine v_lload0 (pc := 6) K dX4_amountOf_6 ?_
    refine v_lneg (pc := 7) K dX4_amountOf_7 ?_
    refine v_goto (pc := 8) (tgt := 12) K dX4_amountOf_8 (by decide) ?_
    cases h
    exact (v_fg [false, true] hJ2)
set_option maxRecDepth 100000 in
def m_X4_part (σ : St) (a0 : Int64) (a1 : Int32) : Option (Int64) :=
  some ((a0 >>> ((((24 : Int32) * a1)).toInt64 &&& 63)) &&& (16777215 : Int64))
set_option maxHeartbeats 4000000 in
set_option maxRecDepth 100000 in
theorem t_X4_part (l : Launch) (hnt : l.stackTraces = false) {E : Ev} {base : Nat} (hE : Adr YM E base) (σ : St) (a0 : Int64) (a1 : Int32) (r : Int64) (h : m_X4_part σ a0 a1 = some r) : Ctr l yX4_part cX4_part 3 (some .long) 0 0 YM E base [.long a0, .int a1] σ (.ok (some (.long r))) σ := by
  unfold m_X4_part at h
  refine ofV 0 (by decide +kernel) rfl hE hnt (Nat.le_of_ble_eq_true rfl) rfl (fun M hN K => ?_)
  refine v_lload0 (pc := 0) K dX4_part_0 ?_
  refine v_bipush (pc := 1) (v := 24) K dX4_part_1 (by decide) ?_
  refine v_iload2 (pc := 3) K dX4_part_3 ?_
  refine v_imul (pc := 4) K dX4_part_4 ?_
  refine v_lshr (pc := 5) K dX4_part_5 ?_
  refine v_ldc2 (pc := 6) K dX4_part_6 cl_RX4_203 ?_
  refine v_land (pc := 9) K dX4_part_9 ?_
  cases h
  exact v_lret (pc := 10) K dX4_part_10 rfl rfl
set_option maxRecDepth 100000 in
def m_X4_adds (σ : St) (a0 : Int64) (a1 : Int64) : Option (St) :=
  ((if (0 : Int64) ≤ a0 then some (0 : Int32) else some (1 : Int32)).bind fun (t1 : Int32) => ((if (0 : Int64) ≤ a1 then some (0 : Int32) else some (1 : Int32)).bind fun (t5 : Int32) => ((if t1 = t5 then some (1 : Int64) else some ((-1) : Int64)).bind fun (t9 : Int64) => ((m_X4_amountOf σ a0).bind fun v13 => ((m_X4_amountOf σ a1).bind fun v15 => ((lp 5000 (fun (s17 : Int32 × St) => (if (3 : Int32) ≤ s17.1 then some (.inr s17.2) else ((lp 5000 (fun (s25 : Int32 × St) => (if (3 : Int32) ≤ s25.1 then some (.inr s25.2) else ((ix (s17.1 + s25.1) 6).bind fun j33 => ((m_X4_part s25.2 v13 s17.1).bind fun v35 => ((m_X4_part s25.2 v15 s25.1).bind fun v37 => ((ix (s17.1 + s25.1) 6).bind fun j39 => some (.inl ((s25.1 + 1), (sL s25.2 7 j39 (s25.2.2 7 j33 + ((t9 * v35) * v37))))))))))) ((0 : Int32), s17.2)).bind fun (r26 : St) => some (.inl ((s17.1 + 1), r26))))) ((0 : Int32), σ)).bind fun (r18 : St) => some r18))))))
set_option maxHeartbeats 4000000 in
set_option maxRecDepth 100000 in
theorem t_X4_adds (l : Launch) (hnt : l.stackTraces = false) {E : Ev} {base : Nat} (hE : Adr YM E base) (σ : St) (a0 : Int64) (a1 : Int64) (r : St) (h : m_X4_adds σ a0 a1 = some r) : Ctr l yX4_adds cX4_adds 13 none 1 22 YM E base [.ref (E.2.2 0), .long a0, .long a1] σ (.ok none) r := by
  unfold m_X4_adds at h
  refine ofV 8 (by decide +kernel) rfl hE hnt (Nat.le_of_ble_eq_true rfl) rfl (fun M hN K => ?_)
  refine v_lload1 (pc := 0) K dX4_adds_0 ?_
  refine v_lc0 (pc := 1) K dX4_adds_1 ?_
  obtain ⟨t1, h3, h⟩ := bd h
  have hJ2 : V (mkX M YM E base 13 (.ok none) r) σ 11 [some (.ref (E.2.2 0)), some (.long a0), none, some (.long a1), none, none, none, none, none, none, none, none, none] [.int t1] := by
    refine v_lload3 (pc := 11) K dX4_adds_11 ?_
    refine v_lc0 (pc := 12) K dX4_adds_12 ?_
    obtain ⟨t5, h7, h⟩ := bd h
    have hJ6 : V (mkX M YM E base 13 (.ok none) r) σ 22 [some (.ref (E.2.2 0)), some (.long a0), none, some (.long a1), none, none, none, none, none, none, none, none, none] [.int t5, .int t1] := by
      obtain ⟨t9, h11, h⟩ := bd h
      have hJ10 : V (mkX M YM E base 13 (.ok none) r) σ 32 [some (.ref (E.2.2 0)), some (.long a0), none, some (.long a1), none, none, none, none, none, none, none, none, none] [.long t9] := by
        refine v_lstore5 (pc := 32) K dX4_adds_32 rfl (Nat.le_of_ble_eq_true rfl) ?_
        refine v_lload1 (pc := 34) K dX4_adds_34 ?_
        obtain ⟨v13, h14, h⟩ := bd h
        refine v_cS1L (pc := 35)  K ca_yX4_amountOf ml_RX4_207 (t_X4_amountOf _ K.nt K.ad σ a0 v13 h14) (Nat.le_of_ble_eq_true rfl) (by decide) (by decide) dX4_adds_35 ?_
        refine v_lstore7 (pc := 38) K dX4_adds_38 rfl (Nat.le_of_ble_eq_true rfl) ?_
        refine v_lload3 (pc := 40) K dX4_adds_40 ?_
        obtain ⟨v15, h16, h⟩ := bd h
        refine v_cS1L (pc := 41)  K ca_yX4_amountOf ml_RX4_207 (t_X4_amountOf _ K.nt K.ad σ a1 v15 h16) (Nat.le_of_ble_eq_true rfl) (by decide) (by decide) dX4_adds_41 ?_
        refine v_lstore9 (pc := 44) K dX4_adds_44 rfl (Nat.le_of_ble_eq_true rfl) ?_
        refine v_ic0 (pc := 46) K dX4_adds_46 ?_
        refine v_istore11 (pc := 47) K dX4_adds_47 rfl (Nat.le_of_ble_eq_true rfl) ?_
        obtain ⟨r18, h20, h⟩ := bd h
        have hJ19 : V (mkX M YM E base 13 (.ok none) r) r18 107 [none, none, none, none, none, none, none, none, none, none, none, none, none] [] := by
          cases h
          exact v_vret (pc := 107) K dX4_adds_107 rfl rfl
        clear h
        refine v_fg [true, false, true, false, true, true, true, true, true, true, true, true, true] ?_
        have hL42 := lpv h20 (fun s17 : Int32 × St => V (mkX M YM E base 13 (.ok none) r) s17.2 49 [some (.ref (E.2.2 0)), none, none, none, none, some (.long t9), none, some (.long v13), none, some (.long v15), none, some (.int s17.1), none] [])
        refine hL42 (fun s17 o h hk => ?_)
        refine v_iload11 (pc := 49) K dX4_adds_49 ?_
        refine v_ic3 (pc := 51) K dX4_adds_51 ?_
        refine v_icmp_ge (pc := 52) (tgt := 107) K dX4_adds_52 (by decide) (fun c24 => ?_) (fun c24 => ?_)
        · have h := it c24 h
          have e := lx h hk
          cases e
          exact v_fg [false, true, true, true, true, false, true, false, true, false, true, false, true] hJ19
        · have h := ie c24 h
          refine v_ic0 (pc := 55) K dX4_adds_55 ?_
          refine v_istore12 (pc := 56) K dX4_adds_56 rfl (Nat.le_of_ble_eq_true rfl) ?_
          obtain ⟨r26, h28, h⟩ := bd h
          have hJ27 : V (mkX M YM E base 13 (.ok none) r) r26 101 [some (.ref (E.2.2 0)), none, none, none, none, some (.long t9), none, some (.long v13), none, some (.long v15), none, some (.int s17.1), none] [] := by
            refine v_iinc11 (pc := 101) (w := 1) K dX4_adds_101 rfl (Nat.le_of_ble_eq_true rfl) (by decide) ?_
            refine v_goto (pc := 104) (tgt := 49) K dX4_adds_104 (by decide) ?_
            have e := lfc h hk
            exact e
          clear h
          have hL41 := lpv h28 (fun s25 : Int32 × St => V (mkX M YM E base 13 (.ok none) r) s25.2 58 [some (.ref (E.2.2 0)), none, none, none, none, some (.long t9), none, some (.long v13), none, some (.long v15), none, some (.int s17.1), some (.int s25.1)] [])
          refine hL41 (fun s25 o h hk => ?_)
          refine v_iload12 (pc := 58) K dX4_adds_58 ?_
          refine v_ic3 (pc := 60) K dX4_adds_60 ?_
          refine v_icmp_ge (pc := 61) (tgt := 101) K dX4_adds_61 (by decide) (fun c32 => ?_) (fun c32 => ?_)
          · have h := it c32 h
            have e := lx h hk
            cases e
            exact v_fg [true, true, true, true, true, true, true, true, true, true, true, true, false] hJ27
          · have h := ie c32 h
            refine v_aload0 (pc := 64) K dX4_adds_64 ?_
            refine v_getR (pc := 65) K fl_RX4_30 dX4_adds_65 (Nat.le_of_ble_eq_true rfl) rfl rfl ?_
            refine v_iload11 (pc := 68) K dX4_adds_68 ?_
            refine v_iload12 (pc := 70) K dX4_adds_70 ?_
            refine v_iadd (pc := 72) K dX4_adds_72 ?_
            refine v_dup2IR (pc := 73) K dX4_adds_73 ?_
            obtain ⟨j33, h34, h⟩ := bd h
            refine v_laload (pc := 74) K dX4_adds_74 (Nat.le_of_ble_eq_true rfl) rfl h34 ?_
            refine v_lload5 (pc := 75) K dX4_adds_75 ?_
            refine v_lload7 (pc := 77) K dX4_adds_77 ?_
            refine v_iload11 (pc := 79) K dX4_adds_79 ?_
            obtain ⟨v35, h36, h⟩ := bd h
            refine v_cS2L (pc := 81)  K ca_yX4_part ml_RX4_211 (t_X4_part _ K.nt K.ad s25.2 v13 s17.1 v35 h36) (Nat.le_of_ble_eq_true rfl) (by decide) (by decide) dX4_adds_81 ?_
            refine v_lmul (pc := 84) K dX4_adds_84 ?_
            refine v_lload9 (pc := 85) K dX4_adds_85 ?_
            refine v_iload12 (pc := 87) K dX4_adds_87 ?_
            obtain ⟨v37, h38, h⟩ := bd h
            refine v_cS2L (pc := 89)  K ca_yX4_part ml_RX4_211 (t_X4_part _ K.nt K.ad s25.2 v15 s25.1 v37 h38) (Nat.le_of_ble_eq_true rfl) (by decide) (by decide) dX4_adds_89 ?_
            refine v_lmul (pc := 92) K dX4_adds_92 ?_
            refine v_ladd (pc := 93) K dX4_adds_93 ?_
            obtain ⟨j39, h40, h⟩ := bd h
            refine v_lastore (pc := 94) K dX4_adds_94 (Nat.le_of_ble_eq_true rfl) rfl h40 ?_
            refine v_iinc12 (pc := 95) (w := 1) K dX4_adds_95 rfl (Nat.le_of_ble_eq_true rfl) (by decide) ?_
            refine v_goto (pc := 98) (tgt := 58) K dX4_adds_98 (by decide) ?_
            have e := lfc h hk
            exact e
      clear h
      have h := h11
      refine v_icmp_ne (pc := 22) (tgt := 29) K dX4_adds_22 (by decide) (fun c12 => ?_) (fun c12 => ?_)
      · have h := ie c12 h
        refine v_ldc2 (pc := 29) K dX4_adds_29 cl_RX4_205 ?_
        cases h
        exact hJ10
      · have h := it c12 h
        refine v_lc1 (pc := 25) K dX4_adds_25 ?_
        refine v_goto (pc := 26) (tgt := 32) K dX4_adds_26 (by decide) ?_
        cases h
        exact hJ10
    clear h
    have h := h7
    refine v_lc_ge (pc := 13) (tgt := 21) K dX4_adds_13 dX4_adds_14 (by decide) (fun c8 => ?_) (fun c8 => ?_)
    · have h := it c8 h
      refine v_ic0 (pc := 21) K dX4_adds_21 ?_
      cases h
      exact hJ6
    · have h := ie c8 h
      refine v_ic1 (pc := 17) K dX4_adds_17 ?_
      refine v_goto (pc := 18) (tgt := 22) K dX4_adds_18 (by decide) ?_
      cases h
      exact hJ6
  clear h
  have h := h3
  refine v_lc_ge (pc := 2) (tgt := 10) K dX4_adds_2 dX4_adds_3 (by decide) (fun c4 => ?_) (fun c4 => ?_)
  · have h := it c4 h
    refine v_ic0 (pc := 10) K dX4_adds_10 ?_
    cases h
    exact hJ2
  · have h := ie c4 h
    refine v_ic1 (pc := 6) K dX4_adds_6 ?_
    refine v_goto (pc := 7) (tgt := 11) K dX4_adds_7 (by decide) ?_
    cases h
    exact hJ2
set_option maxRecDepth 100000 in
def m_X4_carries (σ : St) : Option (St) :=
  ((lp 5000 (fun (s1 : Int32 × St) => (if (5 : Int32) ≤ s1.1 then some (.inr s1.2) else ((ix (s1.1 + (1 : Int32)) 6).bind fun j9 => ((ix s1.1 6).bind fun j11 => ((ix (s1.1 + (1 : Int32)) 6).bind fun j13 => ((ix s1.1 6).bind fun j15 => ((ix s1.1 6).bind fun j17 => some (.inl ((s1.1 + 1), (sL (sL s1.2 7 j13 (s1.2.2 7 j9 + (s1.2.2 7 j11 >>> (((24 : Int32)).toInt64 &&& 63)))) 7 j17 ((sL s1.2 7 j13 (s1.2.2 7 j9 + (s1.2.2 7 j11 >>> (((24 : Int32)).toInt64 &&& 63)))).2 7 j15 &&& (16777215 : Int64)))))))))))) ((0 : Int32), σ)).bind fun (r2 : St) => some r2)
set_option maxHeartbeats 4000000 in
set_option maxRecDepth 100000 in
theorem t_X4_carries (l : Launch) (hnt : l.stackTraces = false) {E : Ev} {base : Nat} (hE : Adr YM E base) (σ : St) (r : St) (h : m_X4_carries σ = some r) : Ctr l yX4_carries cX4_carries 2 none 0 0 YM E base [.ref (E.2.2 0)] σ (.ok none) r := by
  unfold m_X4_carries at h
  refine ofV 1 (by decide +kernel) rfl hE hnt (Nat.le_of_ble_eq_true rfl) rfl (fun M hN K => ?_)
  refine v_ic0 (pc := 0) K dX4_carries_0 ?_
  refine v_istore1 (pc := 1) K dX4_carries_1 rfl (Nat.le_of_ble_eq_true rfl) ?_
  obtain ⟨r2, h4, h⟩ := bd h
  have hJ3 : V (mkX M YM E base 2 (.ok none) r) r2 45 [none, none] [] := by
    cases h
    exact v_vret (pc := 45) K dX4_carries_45 rfl rfl
  clear h
  have hL19 := lpv h4 (fun s1 : Int32 × St => V (mkX M YM E base 2 (.ok none) r) s1.2 2 [some (.ref (E.2.2 0)), some (.int s1.1)] [])
  refine hL19 (fun s1 o h hk => ?_)
  refine v_iload1 (pc := 2) K dX4_carries_2 ?_
  refine v_ic5 (pc := 3) K dX4_carries_3 ?_
  refine v_icmp_ge (pc := 4) (tgt := 45) K dX4_carries_4 (by decide) (fun c8 => ?_) (fun c8 => ?_)
  · have h := it c8 h
    have e := lx h hk
    cases e
    exact v_fg [false, false] hJ3
  · have h := ie c8 h
    refine v_aload0 (pc := 7) K dX4_carries_7 ?_
    refine v_getR (pc := 8) K fl_RX4_30 dX4_carries_8 (Nat.le_of_ble_eq_true rfl) rfl rfl ?_
    refine v_iload1 (pc := 11) K dX4_carries_11 ?_
    refine v_ic1 (pc := 12) K dX4_carries_12 ?_
    refine v_iadd (pc := 13) K dX4_carries_13 ?_
    refine v_dup2IR (pc := 14) K dX4_carries_14 ?_
    obtain ⟨j9, h10, h⟩ := bd h
    refine v_laload (pc := 15) K dX4_carries_15 (Nat.le_of_ble_eq_true rfl) rfl h10 ?_
    refine v_aload0 (pc := 16) K dX4_carries_16 ?_
    refine v_getR (pc := 17) K fl_RX4_30 dX4_carries_17 (Nat.le_of_ble_eq_true rfl) rfl rfl ?_
    refine v_iload1 (pc := 20) K dX4_carries_20 ?_
    obtain ⟨j11, h12, h⟩ := bd h
    refine v_laload (pc := 21) K dX4_carries_21 (Nat.le_of_ble_eq_true rfl) rfl h12 ?_
    refine v_bipush (pc := 22) (v := 24) K dX4_carries_22 (by decide) ?_
    refine v_lshr (pc := 24) K dX4_carries_24 ?_
    refine v_ladd (pc := 25) K dX4_carries_25 ?_
    obtain ⟨j13, h14, h⟩ := bd h
    refine v_lastore (pc := 26) K dX4_carries_26 (Nat.le_of_ble_eq_true rfl) rfl h14 ?_
    refine v_aload0 (pc := 27) K dX4_carries_27 ?_
    refine v_getR (pc := 28) K fl_RX4_30 dX4_carries_28 (Nat.le_of_ble_eq_true rfl) rfl rfl ?_
    refine v_iload1 (pc := 31) K dX4_carries_31 ?_
    refine v_dup2IR (pc := 32) K dX4_carries_32 ?_
    obtain ⟨j15, h16, h⟩ := bd h
    refine v_laload (pc := 33) K dX4_carries_33 (Nat.le_of_ble_eq_true rfl) rfl h16 ?_
    refine v_ldc2 (pc := 34) K dX4_carries_34 cl_RX4_203 ?_
    refine v_land (pc := 37) K dX4_carries_37 ?_
    obtain ⟨j17, h18, h⟩ := bd h
    refine v_lastore (pc := 38) K dX4_carries_38 (Nat.le_of_ble_eq_true rfl) rfl h18 ?_
    refine v_iinc1 (pc := 39) (w := 1) K dX4_carries_39 rfl (Nat.le_of_ble_eq_true rfl) (by decide) ?_
    refine v_goto (pc := 42) (tgt := 2) K dX4_carries_42 (by decide) ?_
    have e := lfc h hk
    exact e
set_option maxRecDepth 100000 in
def m_X4_sumOr (σ : St) (a0 : Int32) : Option (Int64 × St) :=
  ((m_X4_carries σ).bind fun v1 => ((ix (5 : Int32) 6).bind fun j3 => ((if v1.2 7 j3 = (0 : Int64) then ((ix (4 : Int32) 6).bind fun j9 => (if v1.2 7 j9 = (0 : Int64) then ((ix (3 : Int32) 6).bind fun j12 => (if v1.2 7 j12 = (0 : Int64) then ((ix (2 : Int32) 6).bind fun j15 => (if (32768 : Int64) ≤ v1.2 7 j15 then some (0 : Int32) else some (1 : Int32))) else some (0 : Int32))) else some (0 : Int32))) else some (0 : Int32)).bind fun (t5 : Int32) => ((ix (5 : Int32) 6).bind fun j18 => ((if v1.2 7 j18 = ((-1) : Int64) then ((ix (4 : Int32) 6).bind fun j24 => (if v1.2 7 j24 = (16777215 : Int64) then ((ix (3 : Int32) 6).bind fun j27 => (if v1.2 7 j27 = (16777215 : Int64) then ((ix (2 : Int32) 6).bind fun j30 => (if v1.2 7 j30 < (16744448 : Int64) then some (0 : Int32) else some (1 : Int32))) else some (0 : Int32))) else some (0 : Int32))) else some (0 : Int32)).bind fun (t20 : Int32) => (if t5 = 0 then (if t20 = 0 then ((m_X4_fails v1 a0).bind fun v59 => some ((v59.1).toInt64, v59.2)) else ((if t5 = 0 then ((ix (2 : Int32) 6).bind fun j51 => some ((v1.2 7 j51 - (16777215 : Int64)) - (1 : Int64))) else ((ix (2 : Int32) 6).bind fun j53 => some (v1.2 7 j53))).bind fun (t47 : Int64) => ((ix (1 : Int32) 6).bind fun j55 => ((ix (0 : Int32) 6).bind fun j57 => some ((((t47 <<< (((48 : Int32)).toInt64 &&& 63)) + (v1.2 7 j55 <<< (((24 : Int32)).toInt64 &&& 63))) + v1.2 7 j57), v1))))) else ((if t5 = 0 then ((ix (2 : Int32) 6).bind fun j38 => some ((v1.2 7 j38 - (16777215 : Int64)) - (1 : Int64))) else ((ix (2 : Int32) 6).bind fun j40 => some (v1.2 7 j40))).bind fun (t34 : Int64) => ((ix (1 : Int32) 6).bind fun j42 => ((ix (0 : Int32) 6).bind fun j44 => some ((((t34 <<< (((48 : Int32)).toInt64 &&& 63)) + (v1.2 7 j42 <<< (((24 : Int32)).toInt64 &&& 63))) + v1.2 7 j44), v1))))))))))
set_option maxHeartbeats 4000000 in
set_option maxRecDepth 100000 in
theorem t_X4_sumOr (l : Launch) (hnt : l.stackTraces = false) {E : Ev} {base : Nat} (hE : Adr YM E base) (σ : St) (a0 : Int32) (r : Int64 × St) (h : m_X4_sumOr σ a0 = some r) : Ctr l yX4_sumOr cX4_sumOr 6 (some .long) 1 21 YM E base [.ref (E.2.2 0), .int a0] σ (.ok (some (.long r.1))) r.2 := by
  unfold m_X4_sumOr at h
  refine ofV 4 (by decide +kernel) rfl hE hnt (Nat.le_of_ble_eq_true rfl) rfl (fun M hN K => ?_)
  refine v_aload0 (pc := 0) K dX4_sumOr_0 ?_
  obtain ⟨v1, h2, h⟩ := bd h
  refine v_cV0U (pc := 1)  K ca_yX4_carries ml_RX4_215 (Nat.le_of_ble_eq_true rfl) rfl rfl (t_X4_carries _ K.nt K.ad σ v1 h2) (Nat.le_of_ble_eq_true rfl) (by decide) (by decide) dX4_sumOr_1 ?_
  refine v_aload0 (pc := 4) K dX4_sumOr_4 ?_
  refine v_getR (pc := 5) K fl_RX4_30 dX4_sumOr_5 (Nat.le_of_ble_eq_true rfl) rfl rfl ?_
  refine v_ic5 (pc := 8) K dX4_sumOr_8 ?_
  obtain ⟨j3, h4, h⟩ := bd h
  refine v_laload (pc := 9) K dX4_sumOr_9 (Nat.le_of_ble_eq_true rfl) rfl h4 ?_
  refine v_lc0 (pc := 10) K dX4_sumOr_10 ?_
  obtain ⟨t5, h7, h⟩ := bd h
  have hJ6 : V (mkX M YM E base 6 (.ok (some (.long r.1))) r.2) v1 55 [some (.ref (E.2.2 0)), some (.int a0), none, none, none, none] [.int t5] := by
    refine v_istore2 (pc := 55) K dX4_sumOr_55 rfl (Nat.le_of_ble_eq_true rfl) ?_
    refine v_aload0 (pc := 56) K dX4_sumOr_56 ?_
    refine v_getR (pc := 57) K fl_RX4_30 dX4_sumOr_57 (Nat.le_of_ble_eq_true rfl) rfl rfl ?_
    refine v_ic5 (pc := 60) K dX4_sumOr_60 ?_
    obtain ⟨j18, h19, h⟩ := bd h
    refine v_laload (pc := 61) K dX4_sumOr_61 (Nat.le_of_ble_eq_true rfl) rfl h19 ?_
    refine v_ldc2 (pc := 62) K dX4_sumOr_62 cl_RX4_205 ?_
    obtain ⟨t20, h22, h⟩ := bd h
    have hJ21 : V (mkX M YM E base 6 (.ok (some (.long r.1))) r.2) v1 113 [some (.ref (E.2.2 0)), some (.int a0), some (.int t5), none, none, none] [.int t20] := by
      refine v_istore3 (pc := 113) K dX4_sumOr_113 rfl (Nat.le_of_ble_eq_true rfl) ?_
      refine v_iload2 (pc := 114) K dX4_sumOr_114 ?_
      refine v_if_ne (pc := 115) (tgt := 129) K dX4_sumOr_115 (by decide) (fun c33 => ?_) (fun c33 => ?_)
      · have h := ie c33 h
        refine v_iload2 (pc := 129) K dX4_sumOr_129 ?_
        obtain ⟨t34, h36, h⟩ := bd h
        have hJ35 : V (mkX M YM E base 6 (.ok (some (.long r.1))) r.2) v1 154 [some (.ref (E.2.2 0)), none, none, none, none, none] [.long t34] := by
          refine v_lstore4 (pc := 154) K dX4_sumOr_154 rfl (Nat.le_of_ble_eq_true rfl) ?_
          refine v_lload4 (pc := 156) K dX4_sumOr_156 ?_
          refine v_bipush (pc := 158) (v := 48) K dX4_sumOr_158 (by decide) ?_
          refine v_lshl (pc := 160) K dX4_sumOr_160 ?_
          refine v_aload0 (pc := 161) K dX4_sumOr_161 ?_
          refine v_getR (pc := 162) K fl_RX4_30 dX4_sumOr_162 (Nat.le_of_ble_eq_true rfl) rfl rfl ?_
          refine v_ic1 (pc := 165) K dX4_sumOr_165 ?_
          obtain ⟨j42, h43, h⟩ := bd h
          refine v_laload (pc := 166) K dX4_sumOr_166 (Nat.le_of_ble_eq_true rfl) rfl h43 ?_
          refine v_bipush (pc := 167) (v := 24) K dX4_sumOr_167 (by decide) ?_
          refine v_lshl (pc := 169) K dX4_sumOr_169 ?_
          refine v_ladd (pc := 170) K dX4_sumOr_170 ?_
          refine v_aload0 (pc := 171) K dX4_sumOr_171 ?_
          refine v_getR (pc := 172) K fl_RX4_30 dX4_sumOr_172 (Nat.le_of_ble_eq_true rfl) rfl rfl ?_
          refine v_ic0 (pc := 175) K dX4_sumOr_175 ?_
          obtain ⟨j44, h45, h⟩ := bd h
          refine v_laload (pc := 176) K dX4_sumOr_176 (Nat.le_of_ble_eq_true rfl) rfl h45 ?_
          refine v_ladd (pc := 177) K dX4_sumOr_177 ?_
          cases h
          exact v_lret (pc := 178) K dX4_sumOr_178 rfl rfl
        clear h
        have h := h36
        refine v_if_eq (pc := 130) (tgt := 142) K dX4_sumOr_130 (by decide) (fun c37 => ?_) (fun c37 => ?_)
        · have h := it c37 h
          refine v_aload0 (pc := 142) K dX4_sumOr_142 ?_
          refine v_getR (pc := 143) K fl_RX4_30 dX4_sumOr_143 (Nat.le_of_ble_eq_true rfl) rfl rfl ?_
          refine v_ic2 (pc := 146) K dX4_sumOr_146 ?_
          obtain ⟨j38, h39, h⟩ := bd h
          refine v_laload (pc := 147) K dX4_sumOr_147 (Nat.le_of_ble_eq_true rfl) rfl h39 ?_
          refine v_ldc2 (pc := 148) K dX4_sumOr_148 cl_RX4_203 ?_
          refine v_lsub (pc := 151) K dX4_sumOr_151 ?_
          refine v_lc1 (pc := 152) K dX4_sumOr_152 ?_
          refine v_lsub (pc := 153) K dX4_sumOr_153 ?_
          cases h
          exact (v_fg [true, false, false, false, true, true] hJ35)
        · have h := ie c37 h
          refine v_aload0 (pc := 133) K dX4_sumOr_133 ?_
          refine v_getR (pc := 134) K fl_RX4_30 dX4_sumOr_134 (Nat.le_of_ble_eq_true rfl) rfl rfl ?_
          refine v_ic2 (pc := 137) K dX4_sumOr_137 ?_
          obtain ⟨j40, h41, h⟩ := bd h
          refine v_laload (pc := 138) K dX4_sumOr_138 (Nat.le_of_ble_eq_true rfl) rfl h41 ?_
          refine v_goto (pc := 139) (tgt := 154) K dX4_sumOr_139 (by decide) ?_
          cases h
          exact (v_fg [true, false, false, false, true, true] hJ35)
      · have h := it c33 h
        refine v_iload3 (pc := 118) K dX4_sumOr_118 ?_
        refine v_if_ne (pc := 119) (tgt := 129) K dX4_sumOr_119 (by decide) (fun c46 => ?_) (fun c46 => ?_)
        · have h := ie c46 h
          refine v_iload2 (pc := 129) K dX4_sumOr_129 ?_
          obtain ⟨t47, h49, h⟩ := bd h
          have hJ48 : V (mkX M YM E base 6 (.ok (some (.long r.1))) r.2) v1 154 [some (.ref (E.2.2 0)), none, none, none, none, none] [.long t47] := by
            refine v_lstore4 (pc := 154) K dX4_sumOr_154 rfl (Nat.le_of_ble_eq_true rfl) ?_
            refine v_lload4 (pc := 156) K dX4_sumOr_156 ?_
            refine v_bipush (pc := 158) (v := 48) K dX4_sumOr_158 (by decide) ?_
            refine v_lshl (pc := 160) K dX4_sumOr_160 ?_
            refine v_aload0 (pc := 161) K dX4_sumOr_161 ?_
            refine v_getR (pc := 162) K fl_RX4_30 dX4_sumOr_162 (Nat.le_of_ble_eq_true rfl) rfl rfl ?_
            refine v_ic1 (pc := 165) K dX4_sumOr_165 ?_
            obtain ⟨j55, h56, h⟩ := bd h
            refine v_laload (pc := 166) K dX4_sumOr_166 (Nat.le_of_ble_eq_true rfl) rfl h56 ?_
            refine v_bipush (pc := 167) (v := 24) K dX4_sumOr_167 (by decide) ?_
            refine v_lshl (pc := 169) K dX4_sumOr_169 ?_
            refine v_ladd (pc := 170) K dX4_sumOr_170 ?_
            refine v_aload0 (pc := 171) K dX4_sumOr_171 ?_
            refine v_getR (pc := 172) K fl_RX4_30 dX4_sumOr_172 (Nat.le_of_ble_eq_true rfl) rfl rfl ?_
            refine v_ic0 (pc := 175) K dX4_sumOr_175 ?_
            obtain ⟨j57, h58, h⟩ := bd h
            refine v_laload (pc := 176) K dX4_sumOr_176 (Nat.le_of_ble_eq_true rfl) rfl h58 ?_
            refine v_ladd (pc := 177) K dX4_sumOr_177 ?_
            cases h
            exact v_lret (pc := 178) K dX4_sumOr_178 rfl rfl
          clear h
          have h := h49
          refine v_if_eq (pc := 130) (tgt := 142) K dX4_sumOr_130 (by decide) (fun c50 => ?_) (fun c50 => ?_)
          · have h := it c50 h
            refine v_aload0 (pc := 142) K dX4_sumOr_142 ?_
            refine v_getR (pc := 143) K fl_RX4_30 dX4_sumOr_143 (Nat.le_of_ble_eq_true rfl) rfl rfl ?_
            refine v_ic2 (pc := 146) K dX4_sumOr_146 ?_
            obtain ⟨j51, h52, h⟩ := bd h
            refine v_laload (pc := 147) K dX4_sumOr_147 (Nat.le_of_ble_eq_true rfl) rfl h52 ?_
            refine v_ldc2 (pc := 148) K dX4_sumOr_148 cl_RX4_203 ?_
            refine v_lsub (pc := 151) K dX4_sumOr_151 ?_
            refine v_lc1 (pc := 152) K dX4_sumOr_152 ?_
            refine v_lsub (pc := 153) K dX4_sumOr_153 ?_
            cases h
            exact (v_fg [true, false, false, false, true, true] hJ48)
          · have h := ie c50 h
            refine v_aload0 (pc := 133) K dX4_sumOr_133 ?_
            refine v_getR (pc := 134) K fl_RX4_30 dX4_sumOr_134 (Nat.le_of_ble_eq_true rfl) rfl rfl ?_
            refine v_ic2 (pc := 137) K dX4_sumOr_137 ?_
            obtain ⟨j53, h54, h⟩ := bd h
            refine v_laload (pc := 138) K dX4_sumOr_138 (Nat.le_of_ble_eq_true rfl) rfl h54 ?_
            refine v_goto (pc := 139) (tgt := 154) K dX4_sumOr_139 (by decide) ?_
            cases h
            exact (v_fg [true, false, false, false, true, true] hJ48)
        · have h := it c46 h
          refine v_aload0 (pc := 122) K dX4_sumOr_122 ?_
          refine v_iload1 (pc := 123) K dX4_sumOr_123 ?_
          obtain ⟨v59, h60, h⟩ := bd h
          refine v_cV1I (pc := 124)  K ca_yX4_fails ml_RX4_105 (Nat.le_of_ble_eq_true rfl) rfl rfl (t_X4_fails _ K.nt K.ad v1 a0 v59 h60) (Nat.le_of_ble_eq_true rfl) (by decide) (by decide) dX4_sumOr_124 ?_
          refine v_i2l (pc := 127) K dX4_sumOr_127 ?_
          cases h
          exact v_lret (pc := 128) K dX4_sumOr_128 rfl rfl
    clear h
    have h := h22
    refine v_lc_ne (pc := 65) (tgt := 112) K dX4_sumOr_65 dX4_sumOr_66 (by decide) (fun c23 => ?_) (fun c23 => ?_)
    · have h := ie c23 h
      refine v_ic0 (pc := 112) K dX4_sumOr_112 ?_
      cases h
      exact hJ21
    · have h := it c23 h
      refine v_aload0 (pc := 69) K dX4_sumOr_69 ?_
      refine v_getR (pc := 70) K fl_RX4_30 dX4_sumOr_70 (Nat.le_of_ble_eq_true rfl) rfl rfl ?_
      refine v_ic4 (pc := 73) K dX4_sumOr_73 ?_
      obtain ⟨j24, h25, h⟩ := bd h
      refine v_laload (pc := 74) K dX4_sumOr_74 (Nat.le_of_ble_eq_true rfl) rfl h25 ?_
      refine v_ldc2 (pc := 75) K dX4_sumOr_75 cl_RX4_203 ?_
      refine v_lc_ne (pc := 78) (tgt := 112) K dX4_sumOr_78 dX4_sumOr_79 (by decide) (fun c26 => ?_) (fun c26 => ?_)
      · have h := ie c26 h
        refine v_ic0 (pc := 112) K dX4_sumOr_112 ?_
        cases h
        exact hJ21
      · have h := it c26 h
        refine v_aload0 (pc := 82) K dX4_sumOr_82 ?_
        refine v_getR (pc := 83) K fl_RX4_30 dX4_sumOr_83 (Nat.le_of_ble_eq_true rfl) rfl rfl ?_
        refine v_ic3 (pc := 86) K dX4_sumOr_86 ?_
        obtain ⟨j27, h28, h⟩ := bd h
        refine v_laload (pc := 87) K dX4_sumOr_87 (Nat.le_of_ble_eq_true rfl) rfl h28 ?_
        refine v_ldc2 (pc := 88) K dX4_sumOr_88 cl_RX4_203 ?_
        refine v_lc_ne (pc := 91) (tgt := 112) K dX4_sumOr_91 dX4_sumOr_92 (by decide) (fun c29 => ?_) (fun c29 => ?_)
        · have h := ie c29 h
          refine v_ic0 (pc := 112) K dX4_sumOr_112 ?_
          cases h
          exact hJ21
        · have h := it c29 h
          refine v_aload0 (pc := 95) K dX4_sumOr_95 ?_
          refine v_getR (pc := 96) K fl_RX4_30 dX4_sumOr_96 (Nat.le_of_ble_eq_true rfl) rfl rfl ?_
          refine v_ic2 (pc := 99) K dX4_sumOr_99 ?_
          obtain ⟨j30, h31, h⟩ := bd h
          refine v_laload (pc := 100) K dX4_sumOr_100 (Nat.le_of_ble_eq_true rfl) rfl h31 ?_
          refine v_ldc2 (pc := 101) K dX4_sumOr_101 cl_RX4_220 ?_
          refine v_lc_lt (pc := 104) (tgt := 112) K dX4_sumOr_104 dX4_sumOr_105 (by decide) (fun c32 => ?_) (fun c32 => ?_)
          · have h := it c32 h
            refine v_ic0 (pc := 112) K dX4_sumOr_112 ?_
            cases h
            exact hJ21
          · have h := ie c32 h
            refine v_ic1 (pc := 108) K dX4_sumOr_108 ?_
            refine v_goto (pc := 109) (tgt := 113) K dX4_sumOr_109 (by decide) ?_
            cases h
            exact hJ21
  clear h
  have h := h7
  refine v_lc_ne (pc := 11) (tgt := 54) K dX4_sumOr_11 dX4_sumOr_12 (by decide) (fun c8 => ?_) (fun c8 => ?_)
  · have h := ie c8 h
    refine v_ic0 (pc := 54) K dX4_sumOr_54 ?_
    cases h
    exact hJ6
  · have h := it c8 h
    refine v_aload0 (pc := 15) K dX4_sumOr_15 ?_
    refine v_getR (pc := 16) K fl_RX4_30 dX4_sumOr_16 (Nat.le_of_ble_eq_true rfl) rfl rfl ?_
    refine v_ic4 (pc := 19) K dX4_sumOr_19 ?_
    obtain ⟨j9, h10, h⟩ := bd h
    refine v_laload (pc := 20) K dX4_sumOr_20 (Nat.le_of_ble_eq_true rfl) rfl h10 ?_
    refine v_lc0 (pc := 21) K dX4_sumOr_21 ?_
    refine v_lc_ne (pc := 22) (tgt := 54) K dX4_sumOr_22 dX4_sumOr_23 (by decide) (fun c11 => ?_) (fun c11 => ?_)
    · have h := ie c11 h
      refine v_ic0 (pc := 54) K dX4_sumOr_54 ?_
      cases h
      exact hJ6
    · have h := it c11 h
      refine v_aload0 (pc := 26) K dX4_sumOr_26 ?_
      refine v_getR (pc := 27) K fl_RX4_30 dX4_sumOr_27 (Nat.le_of_ble_eq_true rfl) rfl rfl ?_
      refine v_ic3 (pc := 30) K dX4_sumOr_30 ?_
      obtain ⟨j12, h13, h⟩ := bd h
      refine v_laload (pc := 31) K dX4_sumOr_31 (Nat.le_of_ble_eq_true rfl) rfl h13 ?_
      refine v_lc0 (pc := 32) K dX4_sumOr_32 ?_
      refine v_lc_ne (pc := 33) (tgt := 54) K dX4_sumOr_33 dX4_sumOr_34 (by decide) (fun c14 => ?_) (fun c14 => ?_)
      · have h := ie c14 h
        refine v_ic0 (pc := 54) K dX4_sumOr_54 ?_
        cases h
        exact hJ6
      · have h := it c14 h
        refine v_aload0 (pc := 37) K dX4_sumOr_37 ?_
        refine v_getR (pc := 38) K fl_RX4_30 dX4_sumOr_38 (Nat.le_of_ble_eq_true rfl) rfl rfl ?_
        refine v_ic2 (pc := 41) K dX4_sumOr_41 ?_
        obtain ⟨j15, h16, h⟩ := bd h
        refine v_laload (pc := 42) K dX4_sumOr_42 (Nat.le_of_ble_eq_true rfl) rfl h16 ?_
        refine v_ldc2 (pc := 43) K dX4_sumOr_43 cl_RX4_218 ?_
        refine v_lc_ge (pc := 46) (tgt := 54) K dX4_sumOr_46 dX4_sumOr_47 (by decide) (fun c17 => ?_) (fun c17 => ?_)
        · have h := it c17 h
          refine v_ic0 (pc := 54) K dX4_sumOr_54 ?_
          cases h
          exact hJ6
        · have h := ie c17 h
          refine v_ic1 (pc := 50) K dX4_sumOr_50 ?_
          refine v_goto (pc := 51) (tgt := 55) K dX4_sumOr_51 (by decide) ?_
          cases h
          exact hJ6
set_option maxRecDepth 100000 in
def m_X4_sumTo (σ : St) (a0 : Int32) (a1 : Int32) (a2 : Int32) : Option (Int64 × St) :=
  ((m_X4_noSum σ).bind fun v1 => ((lp 5000 (fun (s3 : Int32 × St) => (if a1 < s3.1 then some (.inr s3.2) else ((m_X4_hasUnder s3.2 a0 s3.1 a2).bind fun v11 => ((if v11 = 0 then some s3.2 else ((m_X4_at s3.2 a0 s3.1).bind fun v17 => ((ix v17 1152).bind fun j19 => ((m_X4_adds s3.2 (s3.2.2 1 j19) (1 : Int64)).bind fun v21 => some v21)))).bind fun (t13 : St) => some (.inl ((s3.1 + 1), t13)))))) ((0 : Int32), v1)).bind fun (r4 : St) => ((m_X4_sumOr r4 (2 : Int32)).bind fun v23 => some (v23.1, v23.2))))
set_option maxHeartbeats 4000000 in
set_option maxRecDepth 100000 in
theorem t_X4_sumTo (l : Launch) (hnt : l.stackTraces = false) {E : Ev} {base : Nat} (hE : Adr YM E base) (σ : St) (a0 : Int32) (a1 : Int32) (a2 : Int32) (r : Int64 × St) (h : m_X4_sumTo σ a0 a1 a2 = some r) : Ctr l yX4_sumTo cX4_sumTo 5 (some .long) 2 54 YM E base [.ref (E.2.2 0), .int a0, .int a1, .int a2] σ (.ok (some (.long r.1))) r.2 := by
  unfold m_X4_sumTo at h
  refine ofV 1 (by decide +kernel) rfl hE hnt (Nat.le_of_ble_eq_true rfl) rfl (fun M hN K => ?_)
  refine v_aload0 (pc := 0) K dX4_sumTo_0 ?_
  obtain ⟨v1, h2, h⟩ := bd h
  refine v_cV0U (pc := 1)  K ca_yX4_noSum ml_RX4_222 (Nat.le_of_ble_eq_true rfl) rfl rfl (t_X4_noSum _ K.nt K.ad σ v1 h2) (Nat.le_of_ble_eq_true rfl) (by decide) (by decide) dX4_sumTo_1 ?_
  refine v_ic0 (pc := 4) K dX4_sumTo_4 ?_
  refine v_istore4 (pc := 5) K dX4_sumTo_5 rfl (Nat.le_of_ble_eq_true rfl) ?_
  obtain ⟨r4, h6, h⟩ := bd h
  have hJ5 : V (mkX M YM E base 5 (.ok (some (.long r.1))) r.2) r4 46 [some (.ref (E.2.2 0)), none, none, none, none] [] := by
    refine v_aload0 (pc := 46) K dX4_sumTo_46 ?_
    refine v_ic2 (pc := 47) K dX4_sumTo_47 ?_
    obtain ⟨v23, h24, h⟩ := bd h
    refine v_cV1L (pc := 48)  K ca_yX4_sumOr ml_RX4_229 (Nat.le_of_ble_eq_true rfl) rfl rfl (t_X4_sumOr _ K.nt K.ad r4 (2 : Int32) v23 h24) (Nat.le_of_ble_eq_true rfl) (by decide) (by decide) dX4_sumTo_48 ?_
    cases h
    exact v_lret (pc := 51) K dX4_sumTo_51 rfl rfl
  clear h
  have hL25 := lpv h6 (fun s3 : Int32 × St => V (mkX M YM E base 5 (.ok (some (.long r.1))) r.2) s3.2 7 [some (.ref (E.2.2 0)), some (.int a0), some (.int a1), some (.int a2), some (.int s3.1)] [])
  refine hL25 (fun s3 o h hk => ?_)
  refine v_iload4 (pc := 7) K dX4_sumTo_7 ?_
  refine v_iload2 (pc := 9) K dX4_sumTo_9 ?_
  refine v_icmp_gt (pc := 10) (tgt := 46) K dX4_sumTo_10 (by decide) (fun c10 => ?_) (fun c10 => ?_)
  · have h := it c10 h
    have e := lx h hk
    cases e
    exact v_fg [true, false, false, false, false] hJ5
  · have h := ie c10 h
    refine v_aload0 (pc := 13) K dX4_sumTo_13 ?_
    refine v_iload1 (pc := 14) K dX4_sumTo_14 ?_
    refine v_iload4 (pc := 15) K dX4_sumTo_15 ?_
    refine v_iload3 (pc := 17) K dX4_sumTo_17 ?_
    obtain ⟨v11, h12, h⟩ := bd h
    refine v_cV3I (pc := 18)  K ca_yX4_hasUnder ml_RX4_170 (Nat.le_of_ble_eq_true rfl) rfl rfl (t_X4_hasUnder _ K.nt K.ad s3.2 a0 s3.1 a2 v11 h12) (Nat.le_of_ble_eq_true rfl) (by decide) (by decide) dX4_sumTo_18 ?_
    obtain ⟨t13, h15, h⟩ := bd h
    have hJ14 : V (mkX M YM E base 5 (.ok (some (.long r.1))) r.2) t13 40 [some (.ref (E.2.2 0)), some (.int a0), some (.int a1), some (.int a2), some (.int s3.1)] [] := by
      refine v_iinc4 (pc := 40) (w := 1) K dX4_sumTo_40 rfl (Nat.le_of_ble_eq_true rfl) (by decide) ?_
      refine v_goto (pc := 43) (tgt := 7) K dX4_sumTo_43 (by decide) ?_
      have e := lfc h hk
      exact e
    clear h
    have h := h15
    refine v_if_eq (pc := 21) (tgt := 40) K dX4_sumTo_21 (by decide) (fun c16 => ?_) (fun c16 => ?_)
    · have h := it c16 h
      cases h
      exact hJ14
    · have h := ie c16 h
      refine v_aload0 (pc := 24) K dX4_sumTo_24 ?_
      refine v_aload0 (pc := 25) K dX4_sumTo_25 ?_
      refine v_getR (pc := 26) K fl_RX4_7 dX4_sumTo_26 (Nat.le_of_ble_eq_true rfl) rfl rfl ?_
      refine v_iload1 (pc := 29) K dX4_sumTo_29 ?_
      refine v_iload4 (pc := 30) K dX4_sumTo_30 ?_
      obtain ⟨v17, h18, h⟩ := bd h
      refine v_cS2I (pc := 32)  K ca_yX4_at ml_RX4_94 (t_X4_at _ K.nt K.ad s3.2 a0 s3.1 v17 h18) (Nat.le_of_ble_eq_true rfl) (by decide) (by decide) dX4_sumTo_32 ?_
      obtain ⟨j19, h20, h⟩ := bd h
      refine v_laload (pc := 35) K dX4_sumTo_35 (Nat.le_of_ble_eq_true rfl) rfl h20 ?_
      refine v_lc1 (pc := 36) K dX4_sumTo_36 ?_
      obtain ⟨v21, h22, h⟩ := bd h
      refine v_cV2U (pc := 37)  K ca_yX4_adds ml_RX4_225 (Nat.le_of_ble_eq_true rfl) rfl rfl (t_X4_adds _ K.nt K.ad s3.2 (s3.2.2 1 j19) (1 : Int64) v21 h22) (Nat.le_of_ble_eq_true rfl) (by decide) (by decide) dX4_sumTo_37 ?_
      cases h
      exact hJ14
set_option maxRecDepth 100000 in
def m_X4_sum (σ : St) (a0 : Int32) (a1 : Int32) : Option (Int64 × St) :=
  ((m_X4_areIn (sI σ 0 0 (0 : Int32)) a0 a1).bind fun v1 => (if v1 = 0 then ((m_X4_fails (sI σ 0 0 (0 : Int32)) (1 : Int32)).bind fun v6 => some ((v6.1).toInt64, v6.2)) else ((m_X4_sumTo (sI σ 0 0 (0 : Int32)) a0 ((sI σ 0 0 (0 : Int32)).1 0 5 - (1 : Int32)) a1).bind fun v4 => some (v4.1, v4.2))))
set_option maxHeartbeats 4000000 in
set_option maxRecDepth 100000 in
theorem t_X4_sum (l : Launch) (hnt : l.stackTraces = false) {E : Ev} {base : Nat} (hE : Adr YM E base) (σ : St) (a0 : Int32) (a1 : Int32) (r : Int64 × St) (h : m_X4_sum σ a0 a1 = some r) : Ctr l yX4_sum cX4_sum 3 (some .long) 3 78 YM E base [.ref (E.2.2 0), .int a0, .int a1] σ (.ok (some (.long r.1))) r.2 := by
  unfold m_X4_sum at h
  refine ofV 0 (by decide +kernel) rfl hE hnt (Nat.le_of_ble_eq_true rfl) rfl (fun M hN K => ?_)
  refine v_aload0 (pc := 0) K dX4_sum_0 ?_
  refine v_ic0 (pc := 1) K dX4_sum_1 ?_
  refine v_put (pc := 2) K fw_RX4_69 dX4_sum_2 rfl rfl (Nat.le_of_ble_eq_true rfl) rfl rfl ?_
  refine v_aload0 (pc := 5) K dX4_sum_5 ?_
  refine v_iload1 (pc := 6) K dX4_sum_6 ?_
  refine v_iload2 (pc := 7) K dX4_sum_7 ?_
  obtain ⟨v1, h2, h⟩ := bd h
  refine v_cV2I (pc := 8)  K ca_yX4_areIn ml_RX4_164 (Nat.le_of_ble_eq_true rfl) rfl rfl (t_X4_areIn _ K.nt K.ad (sI σ 0 0 (0 : Int32)) a0 a1 v1 h2) (Nat.le_of_ble_eq_true rfl) (by decide) (by decide) dX4_sum_8 ?_
  refine v_if_ne (pc := 11) (tgt := 21) K dX4_sum_11 (by decide) (fun c3 => ?_) (fun c3 => ?_)
  · have h := ie c3 h
    refine v_aload0 (pc := 21) K dX4_sum_21 ?_
    refine v_iload1 (pc := 22) K dX4_sum_22 ?_
    refine v_aload0 (pc := 23) K dX4_sum_23 ?_
    refine v_getI (pc := 24) K fl_RX4_80 dX4_sum_24 (Nat.le_of_ble_eq_true rfl) rfl rfl ?_
    refine v_ic1 (pc := 27) K dX4_sum_27 ?_
    refine v_isub (pc := 28) K dX4_sum_28 ?_
    refine v_iload2 (pc := 29) K dX4_sum_29 ?_
    obtain ⟨v4, h5, h⟩ := bd h
    refine v_cV3L (pc := 30)  K ca_yX4_sumTo ml_RX4_232 (Nat.le_of_ble_eq_true rfl) rfl rfl (t_X4_sumTo _ K.nt K.ad (sI σ 0 0 (0 : Int32)) a0 ((sI σ 0 0 (0 : Int32)).1 0 5 - (1 : Int32)) a1 v4 h5) (Nat.le_of_ble_eq_true rfl) (by decide) (by decide) dX4_sum_30 ?_
    cases h
    exact v_lret (pc := 33) K dX4_sum_33 rfl rfl
  · have h := it c3 h
    refine v_aload0 (pc := 14) K dX4_sum_14 ?_
    refine v_ic1 (pc := 15) K dX4_sum_15 ?_
    obtain ⟨v6, h7, h⟩ := bd h
    refine v_cV1I (pc := 16)  K ca_yX4_fails ml_RX4_105 (Nat.le_of_ble_eq_true rfl) rfl rfl (t_X4_fails _ K.nt K.ad (sI σ 0 0 (0 : Int32)) (1 : Int32) v6 h7) (Nat.le_of_ble_eq_true rfl) (by decide) (by decide) dX4_sum_16 ?_
    refine v_i2l (pc := 19) K dX4_sum_19 ?_
    cases h
    exact v_lret (pc := 20) K dX4_sum_20 rfl rfl
set_option maxRecDepth 100000 in
def m_X4_upTo (σ : St) (a0 : Int32) (a1 : Int32) (a2 : Int32) : Option (Int64 × St) :=
  ((m_X4_areIn (sI σ 0 0 (0 : Int32)) a0 a2).bind fun v1 => (if v1 = 0 then ((m_X4_fails (sI σ 0 0 (0 : Int32)) (1 : Int32)).bind fun v4 => some ((v4.1).toInt64, v4.2)) else ((m_X4_isRow (sI σ 0 0 (0 : Int32)) a1).bind fun v6 => (if v6 = 0 then ((m_X4_fails (sI σ 0 0 (0 : Int32)) (1 : Int32)).bind fun v11 => some ((v11.1).toInt64, v11.2)) else ((m_X4_sumTo (sI σ 0 0 (0 : Int32)) a0 a1 a2).bind fun v9 => some (v9.1, v9.2))))))
set_option maxHeartbeats 4000000 in
set_option maxRecDepth 100000 in
theorem t_X4_upTo (l : Launch) (hnt : l.stackTraces = false) {E : Ev} {base : Nat} (hE : Adr YM E base) (σ : St) (a0 : Int32) (a1 : Int32) (a2 : Int32) (r : Int64 × St) (h : m_X4_upTo σ a0 a1 a2 = some r) : Ctr l yX4_upTo cX4_upTo 4 (some .long) 3 78 YM E base [.ref (E.2.2 0), .int a0, .int a1, .int a2] σ (.ok (some (.long r.1))) r.2 := by
  unfold m_X4_upTo at h
  refine ofV 0 (by decide +kernel) rfl hE hnt (Nat.le_of_ble_eq_true rfl) rfl (fun M hN K => ?_)
  refine v_aload0 (pc := 0) K dX4_upTo_0 ?_
  refine v_ic0 (pc := 1) K dX4_upTo_1 ?_
  refine v_put (pc := 2) K fw_RX4_69 dX4_upTo_2 rfl rfl (Nat.le_of_ble_eq_true rfl) rfl rfl ?_
  refine v_aload0 (pc := 5) K dX4_upTo_5 ?_
  refine v_iload1 (pc := 6) K dX4_upTo_6 ?_
  refine v_iload3 (pc := 7) K dX4_upTo_7 ?_
  obtain ⟨v1, h2, h⟩ := bd h
  refine v_cV2I (pc := 8)  K ca_yX4_areIn ml_RX4_164 (Nat.le_of_ble_eq_true rfl) rfl rfl (t_X4_areIn _ K.nt K.ad (sI σ 0 0 (0 : Int32)) a0 a2 v1 h2) (Nat.le_of_ble_eq_true rfl) (by decide) (by decide) dX4_upTo_8 ?_
  refine v_if_eq (pc := 11) (tgt := 22) K dX4_upTo_11 (by decide) (fun c3 => ?_) (fun c3 => ?_)
  · have h := it c3 h
    refine v_aload0 (pc := 22) K dX4_upTo_22 ?_
    refine v_ic1 (pc := 23) K dX4_upTo_23 ?_
    obtain ⟨v4, h5, h⟩ := bd h
    refine v_cV1I (pc := 24)  K ca_yX4_fails ml_RX4_105 (Nat.le_of_ble_eq_true rfl) rfl rfl (t_X4_fails _ K.nt K.ad (sI σ 0 0 (0 : Int32)) (1 : Int32) v4 h5) (Nat.le_of_ble_eq_true rfl) (by decide) (by decide) dX4_upTo_24 ?_
    refine v_i2l (pc := 27) K dX4_upTo_27 ?_
    cases h
    exact v_lret (pc := 28) K dX4_upTo_28 rfl rfl
  · have h := ie c3 h
    refine v_aload0 (pc := 14) K dX4_upTo_14 ?_
    refine v_iload2 (pc := 15) K dX4_upTo_15 ?_
    obtain ⟨v6, h7, h⟩ := bd h
    refine v_cV1I (pc := 16)  K ca_yX4_isRow ml_RX4_113 (Nat.le_of_ble_eq_true rfl) rfl rfl (t_X4_isRow _ K.nt K.ad (sI σ 0 0 (0 : Int32)) a1 v6 h7) (Nat.le_of_ble_eq_true rfl) (by decide) (by decide) dX4_upTo_16 ?_
    refine v_if_ne (pc := 19) (tgt := 29) K dX4_upTo_19 (by decide) (fun c8 => ?_) (fun c8 => ?_)
    · have h := ie c8 h
      refine v_aload0 (pc := 29) K dX4_upTo_29 ?_
      refine v_iload1 (pc := 30) K dX4_upTo_30 ?_
      refine v_iload2 (pc := 31) K dX4_upTo_31 ?_
      refine v_iload3 (pc := 32) K dX4_upTo_32 ?_
      obtain ⟨v9, h10, h⟩ := bd h
      refine v_cV3L (pc := 33)  K ca_yX4_sumTo ml_RX4_232 (Nat.le_of_ble_eq_true rfl) rfl rfl (t_X4_sumTo _ K.nt K.ad (sI σ 0 0 (0 : Int32)) a0 a1 a2 v9 h10) (Nat.le_of_ble_eq_true rfl) (by decide) (by decide) dX4_upTo_33 ?_
      cases h
      exact v_lret (pc := 36) K dX4_upTo_36 rfl rfl
    · have h := it c8 h
      refine v_aload0 (pc := 22) K dX4_upTo_22 ?_
      refine v_ic1 (pc := 23) K dX4_upTo_23 ?_
      obtain ⟨v11, h12, h⟩ := bd h
      refine v_cV1I (pc := 24)  K ca_yX4_fails ml_RX4_105 (Nat.le_of_ble_eq_true rfl) rfl rfl (t_X4_fails _ K.nt K.ad (sI σ 0 0 (0 : Int32)) (1 : Int32) v11 h12) (Nat.le_of_ble_eq_true rfl) (by decide) (by decide) dX4_upTo_24 ?_
      refine v_i2l (pc := 27) K dX4_upTo_27 ?_
      cases h
      exact v_lret (pc := 28) K dX4_upTo_28 rfl rfl
set_option maxRecDepth 100000 in
def m_X4_cutDown (σ : St) (a0 : Int64) (a1 : Int64) : Option (Int64) :=
  (if a1 = 0 then none else (if a1 = 0 then none else ((if (0 : Int64) ≤ (a0 - a0 / a1 * a1) then some (a0 / a1) else some ((a0 / a1) - (1 : Int64))).bind fun (t3 : Int64) => some t3)))
set_option maxHeartbeats 4000000 in
set_option maxRecDepth 100000 in
theorem t_X4_cutDown (l : Launch) (hnt : l.stackTraces = false) {E : Ev} {base : Nat} (hE : Adr YM E base) (σ : St) (a0 : Int64) (a1 : Int64) (r : Int64) (h : m_X4_cutDown σ a0 a1 = some r) : Ctr l yX4_cutDown cX4_cutDown 6 (some .long) 0 0 YM E base [.long a0, .long a1] σ (.ok (some (.long r))) σ := by
  unfold m_X4_cutDown at h
  refine ofV 2 (by decide +kernel) rfl hE hnt (Nat.le_of_ble_eq_true rfl) rfl (fun M hN K => ?_)
  refine v_lload0 (pc := 0) K dX4_cutDown_0 ?_
  refine v_lload2 (pc := 1) K dX4_cutDown_1 ?_
  by_cases c1 : a1 = 0
  · cases (it c1 h)
  have h := ie c1 h
  refine v_ldiv (pc := 2) K dX4_cutDown_2 c1 ?_
  refine v_lstore4 (pc := 3) K dX4_cutDown_3 rfl (Nat.le_of_ble_eq_true rfl) ?_
  refine v_lload0 (pc := 5) K dX4_cutDown_5 ?_
  refine v_lload2 (pc := 6) K dX4_cutDown_6 ?_
  by_cases c2 : a1 = 0
  · cases (it c2 h)
  have h := ie c2 h
  refine v_lrem (pc := 7) K dX4_cutDown_7 c2 ?_
  refine v_lc0 (pc := 8) K dX4_cutDown_8 ?_
  obtain ⟨t3, h5, h⟩ := bd h
  have hJ4 : V (mkX M YM E base 6 (.ok (some (.long r))) σ) σ 22 [none, none, none, none, none, none] [.long t3] := by
    cases h
    exact v_lret (pc := 22) K dX4_cutDown_22 rfl rfl
  clear h
  have h := h5
  refine v_lc_ge (pc := 9) (tgt := 20) K dX4_cutDown_9 dX4_cutDown_10 (by decide) (fun c6 => ?_) (fun c6 => ?_)
  · have h := it c6 h
    refine v_lload4 (pc := 20) K dX4_cutDown_20 ?_
    cases h
    exact (v_fg [false, true, false, true, false, true] hJ4)
  · have h := ie c6 h
    refine v_lload4 (pc := 13) K dX4_cutDown_13 ?_
    refine v_lc1 (pc := 15) K dX4_cutDown_15 ?_
    refine v_lsub (pc := 16) K dX4_cutDown_16 ?_
    refine v_goto (pc := 17) (tgt := 22) K dX4_cutDown_17 (by decide) ?_
    cases h
    exact (v_fg [false, true, false, true, false, true] hJ4)
set_option maxRecDepth 100000 in
def m_X4_mean (σ : St) (a0 : Int32) (a1 : Int32) (a2 : Int32) : Option (Int64 × St) :=
  ((m_X4_areIn (sI σ 0 0 (0 : Int32)) a0 a1).bind fun v1 => (if v1 = 0 then ((m_X4_fails (sI σ 0 0 (0 : Int32)) (1 : Int32)).bind fun v35 => some ((v35.1).toInt64, v35.2)) else ((m_X4_isIn (sI σ 0 0 (0 : Int32)) ((a2).toInt64) (0 : Int64) (1 : Int64)).bind fun v4 => (if v4 = 0 then ((m_X4_fails (sI σ 0 0 (0 : Int32)) (2 : Int32)).bind fun v33 => some ((v33.1).toInt64, v33.2)) else ((m_X4_lists (sI σ 0 0 (0 : Int32)) a0 a1).bind fun v7 => (if v7.1 0 10 = 0 then ((m_X4_fails v7 (3 : Int32)).bind fun v31 => some ((v31.1).toInt64, v31.2)) else ((lp 5000 (fun (s10 : Int64 × Int64 × Int32) => (if v7.1 0 10 ≤ s10.2.2 then some (.inr (s10.1, s10.2.1)) else ((ix s10.2.2 192).bind fun j18 => ((m_X4_cutDown v7 (v7.2 6 j18) ((v7.1 0 10).toInt64)).bind fun v20 => ((ix s10.2.2 192).bind fun j22 => some (.inl ((s10.1 + v20), (s10.2.1 + (v7.2 6 j22 - (v20 * (v7.1 0 10).toInt64))), (s10.2.2 + 1)))))))) ((0 : Int64), (0 : Int64), (0 : Int32))).bind fun (r11 : Int64 × Int64) => ((if a2 = 0 then (if (v7.1 0 10).toInt64 = 0 then none else some (r11.1 + (r11.2 / (v7.1 0 10).toInt64))) else (if (v7.1 0 10).toInt64 = 0 then none else some (r11.2 - r11.2 / (v7.1 0 10).toInt64 * (v7.1 0 10).toInt64))).bind fun (t24 : Int64) => some (t24, v7)))))))))
set_option maxHeartbeats 4000000 in
set_option maxRecDepth 100000 in
theorem t_X4_mean (l : Launch) (hnt : l.stackTraces = false) {E : Ev} {base : Nat} (hE : Adr YM E base) (σ : St) (a0 : Int32) (a1 : Int32) (a2 : Int32) (r : Int64 × St) (h : m_X4_mean σ a0 a1 a2 = some r) : Ctr l yX4_mean cX4_mean 11 (some .long) 3 70 YM E base [.ref (E.2.2 0), .int a0, .int a1, .int a2] σ (.ok (some (.long r.1))) r.2 := by
  unfold m_X4_mean at h
  refine ofV 7 (by decide +kernel) rfl hE hnt (Nat.le_of_ble_eq_true rfl) rfl (fun M hN K => ?_)
  refine v_aload0 (pc := 0) K dX4_mean_0 ?_
  refine v_ic0 (pc := 1) K dX4_mean_1 ?_
  refine v_put (pc := 2) K fw_RX4_69 dX4_mean_2 rfl rfl (Nat.le_of_ble_eq_true rfl) rfl rfl ?_
  refine v_aload0 (pc := 5) K dX4_mean_5 ?_
  refine v_iload1 (pc := 6) K dX4_mean_6 ?_
  refine v_iload2 (pc := 7) K dX4_mean_7 ?_
  obtain ⟨v1, h2, h⟩ := bd h
  refine v_cV2I (pc := 8)  K ca_yX4_areIn ml_RX4_164 (Nat.le_of_ble_eq_true rfl) rfl rfl (t_X4_areIn _ K.nt K.ad (sI σ 0 0 (0 : Int32)) a0 a1 v1 h2) (Nat.le_of_ble_eq_true rfl) (by decide) (by decide) dX4_mean_8 ?_
  refine v_if_ne (pc := 11) (tgt := 21) K dX4_mean_11 (by decide) (fun c3 => ?_) (fun c3 => ?_)
  · have h := ie c3 h
    refine v_iload3 (pc := 21) K dX4_mean_21 ?_
    refine v_i2l (pc := 22) K dX4_mean_22 ?_
    refine v_lc0 (pc := 23) K dX4_mean_23 ?_
    refine v_lc1 (pc := 24) K dX4_mean_24 ?_
    obtain ⟨v4, h5, h⟩ := bd h
    refine v_cS3I (pc := 25)  K ca_yX4_isIn ml_RX4_76 (t_X4_isIn _ K.nt K.ad (sI σ 0 0 (0 : Int32)) ((a2).toInt64) (0 : Int64) (1 : Int64) v4 h5) (Nat.le_of_ble_eq_true rfl) (by decide) (by decide) dX4_mean_25 ?_
    refine v_if_ne (pc := 28) (tgt := 38) K dX4_mean_28 (by decide) (fun c6 => ?_) (fun c6 => ?_)
    · have h := ie c6 h
      refine v_aload0 (pc := 38) K dX4_mean_38 ?_
      refine v_iload1 (pc := 39) K dX4_mean_39 ?_
      refine v_iload2 (pc := 40) K dX4_mean_40 ?_
      obtain ⟨v7, h8, h⟩ := bd h
      refine v_cV2U (pc := 41)  K ca_yX4_lists ml_RX4_199 (Nat.le_of_ble_eq_true rfl) rfl rfl (t_X4_lists _ K.nt K.ad (sI σ 0 0 (0 : Int32)) a0 a1 v7 h8) (Nat.le_of_ble_eq_true rfl) (by decide) (by decide) dX4_mean_41 ?_
      refine v_aload0 (pc := 44) K dX4_mean_44 ?_
      refine v_getI (pc := 45) K fl_RX4_196 dX4_mean_45 (Nat.le_of_ble_eq_true rfl) rfl rfl ?_
      refine v_if_ne (pc := 48) (tgt := 58) K dX4_mean_48 (by decide) (fun c9 => ?_) (fun c9 => ?_)
      · have h := ie c9 h
        refine v_lc0 (pc := 58) K dX4_mean_58 ?_
        refine v_lstore4 (pc := 59) K dX4_mean_59 rfl (Nat.le_of_ble_eq_true rfl) ?_
        refine v_lc0 (pc := 61) K dX4_mean_61 ?_
        refine v_lstore6 (pc := 62) K dX4_mean_62 rfl (Nat.le_of_ble_eq_true rfl) ?_
        refine v_ic0 (pc := 64) K dX4_mean_64 ?_
        refine v_istore8 (pc := 65) K dX4_mean_65 rfl (Nat.le_of_ble_eq_true rfl) ?_
        obtain ⟨r11, h13, h⟩ := bd h
        have hJ12 : V (mkX M YM E base 11 (.ok (some (.long r.1))) r.2) v7 127 [some (.ref (E.2.2 0)), none, none, some (.int a2), some (.long r11.1), none, some (.long r11.2), none, none, none, none] [] := by
          refine v_iload3 (pc := 127) K dX4_mean_127 ?_
          obtain ⟨t24, h26, h⟩ := bd h
          have hJ25 : V (mkX M YM E base 11 (.ok (some (.long r.1))) r.2) v7 153 [none, none, none, none, none, none, none, none, none, none, none] [.long t24] := by
            cases h
            exact v_lret (pc := 153) K dX4_mean_153 rfl rfl
          clear h
          have h := h26
          refine v_if_ne (pc := 128) (tgt := 145) K dX4_mean_128 (by decide) (fun c27 => ?_) (fun c27 => ?_)
          · have h := ie c27 h
            refine v_lload6 (pc := 145) K dX4_mean_145 ?_
            refine v_aload0 (pc := 147) K dX4_mean_147 ?_
            refine v_getI (pc := 148) K fl_RX4_196 dX4_mean_148 (Nat.le_of_ble_eq_true rfl) rfl rfl ?_
            refine v_i2l (pc := 151) K dX4_mean_151 ?_
            by_cases c28 : (v7.1 0 10).toInt64 = 0
            · cases (it c28 h)
            have h := ie c28 h
            refine v_lrem (pc := 152) K dX4_mean_152 c28 ?_
            cases h
            exact (v_fg [false, true, true, false, false, true, false, true, true, true, true] hJ25)
          · have h := it c27 h
            refine v_lload4 (pc := 131) K dX4_mean_131 ?_
            refine v_lload6 (pc := 133) K dX4_mean_133 ?_
            refine v_aload0 (pc := 135) K dX4_mean_135 ?_
            refine v_getI (pc := 136) K fl_RX4_196 dX4_mean_136 (Nat.le_of_ble_eq_true rfl) rfl rfl ?_
            refine v_i2l (pc := 139) K dX4_mean_139 ?_
            by_cases c29 : (v7.1 0 10).toInt64 = 0
            · cases (it c29 h)
            have h := ie c29 h
            refine v_ldiv (pc := 140) K dX4_mean_140 c29 ?_
            refine v_ladd (pc := 141) K dX4_mean_141 ?_
            refine v_goto (pc := 142) (tgt := 153) K dX4_mean_142 (by decide) ?_
            cases h
            exact (v_fg [false, true, true, false, false, true, false, true, true, true, true] hJ25)
        clear h
        refine v_fg [true, false, false, true, true, true, true, true, true, true, true] ?_
        have hL30 := lpv h13 (fun s10 : Int64 × Int64 × Int32 => V (mkX M YM E base 11 (.ok (some (.long r.1))) r.2) v7 67 [some (.ref (E.2.2 0)), none, none, some (.int a2), some (.long s10.1), none, some (.long s10.2.1), none, some (.int s10.2.2), none, none] [])
        refine hL30 (fun s10 o h hk => ?_)
        refine v_iload8 (pc := 67) K dX4_mean_67 ?_
        refine v_aload0 (pc := 69) K dX4_mean_69 ?_
        refine v_getI (pc := 70) K fl_RX4_196 dX4_mean_70 (Nat.le_of_ble_eq_true rfl) rfl rfl ?_
        refine v_icmp_ge (pc := 73) (tgt := 127) K dX4_mean_73 (by decide) (fun c17 => ?_) (fun c17 => ?_)
        · have h := it c17 h
          have e := lx h hk
          cases e
          exact v_fg [true, true, true, true, true, true, true, true, false, true, true] hJ12
        · have h := ie c17 h
          refine v_aload0 (pc := 76) K dX4_mean_76 ?_
          refine v_getR (pc := 77) K fl_RX4_27 dX4_mean_77 (Nat.le_of_ble_eq_true rfl) rfl rfl ?_
          refine v_iload8 (pc := 80) K dX4_mean_80 ?_
          obtain ⟨j18, h19, h⟩ := bd h
          refine v_laload (pc := 82) K dX4_mean_82 (Nat.le_of_ble_eq_true rfl) rfl h19 ?_
          refine v_aload0 (pc := 83) K dX4_mean_83 ?_
          refine v_getI (pc := 84) K fl_RX4_196 dX4_mean_84 (Nat.le_of_ble_eq_true rfl) rfl rfl ?_
          refine v_i2l (pc := 87) K dX4_mean_87 ?_
          obtain ⟨v20, h21, h⟩ := bd h
          refine v_cS2L (pc := 88)  K ca_yX4_cutDown ml_RX4_236 (t_X4_cutDown _ K.nt K.ad v7 (v7.2 6 j18) ((v7.1 0 10).toInt64) v20 h21) (Nat.le_of_ble_eq_true rfl) (by decide) (by decide) dX4_mean_88 ?_
          refine v_lstore9 (pc := 91) K dX4_mean_91 rfl (Nat.le_of_ble_eq_true rfl) ?_
          refine v_lload4 (pc := 93) K dX4_mean_93 ?_
          refine v_lload9 (pc := 95) K dX4_mean_95 ?_
          refine v_ladd (pc := 97) K dX4_mean_97 ?_
          refine v_lstore4 (pc := 98) K dX4_mean_98 rfl (Nat.le_of_ble_eq_true rfl) ?_
          refine v_lload6 (pc := 100) K dX4_mean_100 ?_
          refine v_aload0 (pc := 102) K dX4_mean_102 ?_
          refine v_getR (pc := 103) K fl_RX4_27 dX4_mean_103 (Nat.le_of_ble_eq_true rfl) rfl rfl ?_
          refine v_iload8 (pc := 106) K dX4_mean_106 ?_
          obtain ⟨j22, h23, h⟩ := bd h
          refine v_laload (pc := 108) K dX4_mean_108 (Nat.le_of_ble_eq_true rfl) rfl h23 ?_
          refine v_lload9 (pc := 109) K dX4_mean_109 ?_
          refine v_aload0 (pc := 111) K dX4_mean_111 ?_
          refine v_getI (pc := 112) K fl_RX4_196 dX4_mean_112 (Nat.le_of_ble_eq_true rfl) rfl rfl ?_
          refine v_i2l (pc := 115) K dX4_mean_115 ?_
          refine v_lmul (pc := 116) K dX4_mean_116 ?_
          refine v_lsub (pc := 117) K dX4_mean_117 ?_
          refine v_ladd (pc := 118) K dX4_mean_118 ?_
          refine v_lstore6 (pc := 119) K dX4_mean_119 rfl (Nat.le_of_ble_eq_true rfl) ?_
          refine v_iinc8 (pc := 121) (w := 1) K dX4_mean_121 rfl (Nat.le_of_ble_eq_true rfl) (by decide) ?_
          refine v_goto (pc := 124) (tgt := 67) K dX4_mean_124 (by decide) ?_
          have e := lfc h hk
          exact v_fg [true, true, true, true, true, true, true, true, true, false, true] e
      · have h := it c9 h
        refine v_aload0 (pc := 51) K dX4_mean_51 ?_
        refine v_ic3 (pc := 52) K dX4_mean_52 ?_
        obtain ⟨v31, h32, h⟩ := bd h
        refine v_cV1I (pc := 53)  K ca_yX4_fails ml_RX4_105 (Nat.le_of_ble_eq_true rfl) rfl rfl (t_X4_fails _ K.nt K.ad v7 (3 : Int32) v31 h32) (Nat.le_of_ble_eq_true rfl) (by decide) (by decide) dX4_mean_53 ?_
        refine v_i2l (pc := 56) K dX4_mean_56 ?_
        cases h
        exact v_lret (pc := 57) K dX4_mean_57 rfl rfl
    · have h := it c6 h
      refine v_aload0 (pc := 31) K dX4_mean_31 ?_
      refine v_ic2 (pc := 32) K dX4_mean_32 ?_
      obtain ⟨v33, h34, h⟩ := bd h
      refine v_cV1I (pc := 33)  K ca_yX4_fails ml_RX4_105 (Nat.le_of_ble_eq_true rfl) rfl rfl (t_X4_fails _ K.nt K.ad (sI σ 0 0 (0 : Int32)) (2 : Int32) v33 h34) (Nat.le_of_ble_eq_true rfl) (by decide) (by decide) dX4_mean_33 ?_
      refine v_i2l (pc := 36) K dX4_mean_36 ?_
      cases h
      exact v_lret (pc := 37) K dX4_mean_37 rfl rfl
  · have h := it c3 h
    refine v_aload0 (pc := 14) K dX4_mean_14 ?_
    refine v_ic1 (pc := 15) K dX4_mean_15 ?_
    obtain ⟨v35, h36, h⟩ := bd h
    refine v_cV1I (pc := 16)  K ca_yX4_fails ml_RX4_105 (Nat.le_of_ble_eq_true rfl) rfl rfl (t_X4_fails _ K.nt K.ad (sI σ 0 0 (0 : Int32)) (1 : Int32) v35 h36) (Nat.le_of_ble_eq_true rfl) (by decide) (by decide) dX4_mean_16 ?_
    refine v_i2l (pc := 19) K dX4_mean_19 ?_
    cases h
    exact v_lret (pc := 20) K dX4_mean_20 rfl rfl
