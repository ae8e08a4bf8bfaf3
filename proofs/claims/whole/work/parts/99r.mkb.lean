set_option maxRecDepth 100000 in
def m_X4_keep (σ : St) (a0 : Int32) : Option (Int32 × St) :=
  ((m_X4_isIn (sI σ 0 0 (0 : Int32)) ((a0).toInt64) (0 : Int64) (1 : Int64)).bind fun v1 => (if v1 = 0 then ((m_X4_fails (sI σ 0 0 (0 : Int32)) (1 : Int32)).bind fun v53 => some (v53.1, v53.2)) else ((lp 5000 (fun (s4 : Int32 × St) => (if (1152 : Int32) ≤ s4.1 then some (.inr s4.2) else ((ix s4.1 1152).bind fun j12 => ((ix (((1152 : Int32) * a0) + s4.1) 2304).bind fun j14 => ((ix s4.1 1152).bind fun j16 => ((ix (((1152 : Int32) * a0) + s4.1) 2304).bind fun j18 => some (.inl ((s4.1 + 1), (sI (sL s4.2 13 j14 (s4.2.2 1 j12)) 14 j18 (nz ((sL s4.2 13 j14 (s4.2.2 1 j12)).1 2 j16))))))))))) ((0 : Int32), (sI σ 0 0 (0 : Int32)))).bind fun (r5 : St) => ((lp 5000 (fun (s20 : Int32 × St) => (if (1536 : Int32) ≤ s20.1 then some (.inr s20.2) else ((ix s20.1 1536).bind fun j28 => ((ix (((1536 : Int32) * a0) + s20.1) 3072).bind fun j30 => some (.inl ((s20.1 + 1), (sI s20.2 15 j30 (nz (s20.2.1 4 j28))))))))) ((0 : Int32), r5)).bind fun (r21 : St) => ((lp 5000 (fun (s32 : Int32 × St) => (if (6 : Int32) ≤ s32.1 then some (.inr s32.2) else ((ix s32.1 6).bind fun j40 => ((ix (((6 : Int32) * a0) + s32.1) 12).bind fun j42 => some (.inl ((s32.1 + 1), (sI s32.2 16 j42 (s32.2.1 3 j40)))))))) ((0 : Int32), r21)).bind fun (r33 : St) => ((ix a0 2).bind fun j44 => ((ix a0 2).bind fun j46 => ((ix a0 2).bind fun j48 => some ((sI (sI (sI r33 17 j44 (r33.1 0 5)) 18 j46 ((sI r33 17 j44 (r33.1 0 5)).1 0 6)) 19 j48 (nz (1 : Int32))).1 0 5, (sI (sI (sI r33 17 j44 (r33.1 0 5)) 18 j46 ((sI r33 17 j44 (r33.1 0 5)).1 0 6)) 19 j48 (nz (1 : Int32))))))))))))
set_option maxHeartbeats 4000000 in
set_option maxRecDepth 100000 in
theorem t_X4_keep (l : Launch) (hnt : l.stackTraces = false) {E : Ev} {base : Nat} (hE : Adr YM E base) (σ : St) (a0 : Int32) (r : Int32 × St) (h : m_X4_keep σ a0 = some r) : Ctr l yX4_keep cX4_keep 3 (some .int) 1 25 YM E base [.ref (E.2.2 0), .int a0] σ (.ok (some (.int r.1))) r.2 := by
  unfold m_X4_keep at h
  refine ofV 1 (by decide +kernel) rfl hE hnt (Nat.le_of_ble_eq_true rfl) rfl (fun M hN K => ?_)
  refine v_aload0 (pc := 0) K dX4_keep_0 ?_
  refine v_ic0 (pc := 1) K dX4_keep_1 ?_
  refine v_put (pc := 2) K fw_RX4_69 dX4_keep_2 rfl rfl (Nat.le_of_ble_eq_true rfl) rfl rfl ?_
  refine v_iload1 (pc := 5) K dX4_keep_5 ?_
  refine v_i2l (pc := 6) K dX4_keep_6 ?_
  refine v_lc0 (pc := 7) K dX4_keep_7 ?_
  refine v_lc1 (pc := 8) K dX4_keep_8 ?_
  obtain ⟨v1, h2, h⟩ := bd h
  refine v_cS3I (pc := 9)  K ca_yX4_isIn ml_RX4_76 (t_X4_isIn _ K.nt K.ad (sI σ 0 0 (0 : Int32)) ((a0).toInt64) (0 : Int64) (1 : Int64) v1 h2) (Nat.le_of_ble_eq_true rfl) (by decide) (by decide) dX4_keep_9 ?_
  refine v_if_ne (pc := 12) (tgt := 21) K dX4_keep_12 (by decide) (fun c3 => ?_) (fun c3 => ?_)
  · have h := ie c3 h
    refine v_ic0 (pc := 21) K dX4_keep_21 ?_
    refine v_istore2 (pc := 22) K dX4_keep_22 rfl (Nat.le_of_ble_eq_true rfl) ?_
    obtain ⟨r5, h7, h⟩ := bd h
    have hJ6 : V (mkX M YM E base 3 (.ok (some (.int r.1))) r.2) r5 72 [some (.ref (E.2.2 0)), some (.int a0), none] [] := by
      refine v_ic0 (pc := 72) K dX4_keep_72 ?_
      refine v_istore2 (pc := 73) K dX4_keep_73 rfl (Nat.le_of_ble_eq_true rfl) ?_
      obtain ⟨r21, h23, h⟩ := bd h
      have hJ22 : V (mkX M YM E base 3 (.ok (some (.int r.1))) r.2) r21 105 [some (.ref (E.2.2 0)), some (.int a0), none] [] := by
        refine v_ic0 (pc := 105) K dX4_keep_105 ?_
        refine v_istore2 (pc := 106) K dX4_keep_106 rfl (Nat.le_of_ble_eq_true rfl) ?_
        obtain ⟨r33, h35, h⟩ := bd h
        have hJ34 : V (mkX M YM E base 3 (.ok (some (.int r.1))) r.2) r33 136 [some (.ref (E.2.2 0)), some (.int a0), none] [] := by
          refine v_aload0 (pc := 136) K dX4_keep_136 ?_
          refine v_getR (pc := 137) K fl_RX4_60 dX4_keep_137 (Nat.le_of_ble_eq_true rfl) rfl rfl ?_
          refine v_iload1 (pc := 140) K dX4_keep_140 ?_
          refine v_aload0 (pc := 141) K dX4_keep_141 ?_
          refine v_getI (pc := 142) K fl_RX4_80 dX4_keep_142 (Nat.le_of_ble_eq_true rfl) rfl rfl ?_
          obtain ⟨j44, h45, h⟩ := bd h
          refine v_iastore (pc := 145) K dX4_keep_145 (Nat.le_of_ble_eq_true rfl) rfl h45 ?_
          refine v_aload0 (pc := 146) K dX4_keep_146 ?_
          refine v_getR (pc := 147) K fl_RX4_63 dX4_keep_147 (Nat.le_of_ble_eq_true rfl) rfl rfl ?_
          refine v_iload1 (pc := 150) K dX4_keep_150 ?_
          refine v_aload0 (pc := 151) K dX4_keep_151 ?_
          refine v_getI (pc := 152) K fl_RX4_73 dX4_keep_152 (Nat.le_of_ble_eq_true rfl) rfl rfl ?_
          obtain ⟨j46, h47, h⟩ := bd h
          refine v_iastore (pc := 155) K dX4_keep_155 (Nat.le_of_ble_eq_true rfl) rfl h47 ?_
          refine v_aload0 (pc := 156) K dX4_keep_156 ?_
          refine v_getR (pc := 157) K fl_RX4_66 dX4_keep_157 (Nat.le_of_ble_eq_true rfl) rfl rfl ?_
          refine v_iload1 (pc := 160) K dX4_keep_160 ?_
          refine v_ic1 (pc := 161) K dX4_keep_161 ?_
          obtain ⟨j48, h49, h⟩ := bd h
          refine v_zastore (pc := 162) K dX4_keep_162 (Nat.le_of_ble_eq_true rfl) rfl h49 ?_
          refine v_aload0 (pc := 163) K dX4_keep_163 ?_
          refine v_getI (pc := 164) K fl_RX4_80 dX4_keep_164 (Nat.le_of_ble_eq_true rfl) rfl rfl ?_
          cases h
          exact v_iret (pc := 167) K dX4_keep_167 rfl rfl
        clear h
        have hL50 := lpv h35 (fun s32 : Int32 × St => V (mkX M YM E base 3 (.ok (some (.int r.1))) r.2) s32.2 107 [some (.ref (E.2.2 0)), some (.int a0), some (.int s32.1)] [])
        refine hL50 (fun s32 o h hk => ?_)
        refine v_iload2 (pc := 107) K dX4_keep_107 ?_
        refine v_bipush (pc := 108) (v := 6) K dX4_keep_108 (by decide) ?_
        refine v_icmp_ge (pc := 110) (tgt := 136) K dX4_keep_110 (by decide) (fun c39 => ?_) (fun c39 => ?_)
        · have h := it c39 h
          have e := lx h hk
          cases e
          exact v_fg [true, true, false] hJ34
        · have h := ie c39 h
          refine v_aload0 (pc := 113) K dX4_keep_113 ?_
          refine v_getR (pc := 114) K fl_RX4_57 dX4_keep_114 (Nat.le_of_ble_eq_true rfl) rfl rfl ?_
          refine v_bipush (pc := 117) (v := 6) K dX4_keep_117 (by decide) ?_
          refine v_iload1 (pc := 119) K dX4_keep_119 ?_
          refine v_imul (pc := 120) K dX4_keep_120 ?_
          refine v_iload2 (pc := 121) K dX4_keep_121 ?_
          refine v_iadd (pc := 122) K dX4_keep_122 ?_
          refine v_aload0 (pc := 123) K dX4_keep_123 ?_
          refine v_getR (pc := 124) K fl_RX4_17 dX4_keep_124 (Nat.le_of_ble_eq_true rfl) rfl rfl ?_
          refine v_iload2 (pc := 127) K dX4_keep_127 ?_
          obtain ⟨j40, h41, h⟩ := bd h
          refine v_iaload (pc := 128) K dX4_keep_128 (Nat.le_of_ble_eq_true rfl) rfl h41 ?_
          obtain ⟨j42, h43, h⟩ := bd h
          refine v_iastore (pc := 129) K dX4_keep_129 (Nat.le_of_ble_eq_true rfl) rfl h43 ?_
          refine v_iinc2 (pc := 130) (w := 1) K dX4_keep_130 rfl (Nat.le_of_ble_eq_true rfl) (by decide) ?_
          refine v_goto (pc := 133) (tgt := 107) K dX4_keep_133 (by decide) ?_
          have e := lfc h hk
          exact e
      clear h
      have hL51 := lpv h23 (fun s20 : Int32 × St => V (mkX M YM E base 3 (.ok (some (.int r.1))) r.2) s20.2 74 [some (.ref (E.2.2 0)), some (.int a0), some (.int s20.1)] [])
      refine hL51 (fun s20 o h hk => ?_)
      refine v_iload2 (pc := 74) K dX4_keep_74 ?_
      refine v_sipush (pc := 75) (v := 1536) K dX4_keep_75 (by decide) ?_
      refine v_icmp_ge (pc := 78) (tgt := 105) K dX4_keep_78 (by decide) (fun c27 => ?_) (fun c27 => ?_)
      · have h := it c27 h
        have e := lx h hk
        cases e
        exact v_fg [true, true, false] hJ22
      · have h := ie c27 h
        refine v_aload0 (pc := 81) K dX4_keep_81 ?_
        refine v_getR (pc := 82) K fl_RX4_54 dX4_keep_82 (Nat.le_of_ble_eq_true rfl) rfl rfl ?_
        refine v_sipush (pc := 85) (v := 1536) K dX4_keep_85 (by decide) ?_
        refine v_iload1 (pc := 88) K dX4_keep_88 ?_
        refine v_imul (pc := 89) K dX4_keep_89 ?_
        refine v_iload2 (pc := 90) K dX4_keep_90 ?_
        refine v_iadd (pc := 91) K dX4_keep_91 ?_
        refine v_aload0 (pc := 92) K dX4_keep_92 ?_
        refine v_getR (pc := 93) K fl_RX4_21 dX4_keep_93 (Nat.le_of_ble_eq_true rfl) rfl rfl ?_
        refine v_iload2 (pc := 96) K dX4_keep_96 ?_
        obtain ⟨j28, h29, h⟩ := bd h
        refine v_zaload (pc := 97) K dX4_keep_97 (Nat.le_of_ble_eq_true rfl) rfl h29 ?_
        obtain ⟨j30, h31, h⟩ := bd h
        refine v_zastore (pc := 98) K dX4_keep_98 (Nat.le_of_ble_eq_true rfl) rfl h31 ?_
        refine v_iinc2 (pc := 99) (w := 1) K dX4_keep_99 rfl (Nat.le_of_ble_eq_true rfl) (by decide) ?_
        refine v_goto (pc := 102) (tgt := 74) K dX4_keep_102 (by decide) ?_
        have e := lfc h hk
        exact e
    clear h
    have hL52 := lpv h7 (fun s4 : Int32 × St => V (mkX M YM E base 3 (.ok (some (.int r.1))) r.2) s4.2 23 [some (.ref (E.2.2 0)), some (.int a0), some (.int s4.1)] [])
    refine hL52 (fun s4 o h hk => ?_)
    refine v_iload2 (pc := 23) K dX4_keep_23 ?_
    refine v_sipush (pc := 24) (v := 1152) K dX4_keep_24 (by decide) ?_
    refine v_icmp_ge (pc := 27) (tgt := 72) K dX4_keep_27 (by decide) (fun c11 => ?_) (fun c11 => ?_)
    · have h := it c11 h
      have e := lx h hk
      cases e
      exact v_fg [true, true, false] hJ6
    · have h := ie c11 h
      refine v_aload0 (pc := 30) K dX4_keep_30 ?_
      refine v_getR (pc := 31) K fl_RX4_48 dX4_keep_31 (Nat.le_of_ble_eq_true rfl) rfl rfl ?_
      refine v_sipush (pc := 34) (v := 1152) K dX4_keep_34 (by decide) ?_
      refine v_iload1 (pc := 37) K dX4_keep_37 ?_
      refine v_imul (pc := 38) K dX4_keep_38 ?_
      refine v_iload2 (pc := 39) K dX4_keep_39 ?_
      refine v_iadd (pc := 40) K dX4_keep_40 ?_
      refine v_aload0 (pc := 41) K dX4_keep_41 ?_
      refine v_getR (pc := 42) K fl_RX4_7 dX4_keep_42 (Nat.le_of_ble_eq_true rfl) rfl rfl ?_
      refine v_iload2 (pc := 45) K dX4_keep_45 ?_
      obtain ⟨j12, h13, h⟩ := bd h
      refine v_laload (pc := 46) K dX4_keep_46 (Nat.le_of_ble_eq_true rfl) rfl h13 ?_
      obtain ⟨j14, h15, h⟩ := bd h
      refine v_lastore (pc := 47) K dX4_keep_47 (Nat.le_of_ble_eq_true rfl) rfl h15 ?_
      refine v_aload0 (pc := 48) K dX4_keep_48 ?_
      refine v_getR (pc := 49) K fl_RX4_51 dX4_keep_49 (Nat.le_of_ble_eq_true rfl) rfl rfl ?_
      refine v_sipush (pc := 52) (v := 1152) K dX4_keep_52 (by decide) ?_
      refine v_iload1 (pc := 55) K dX4_keep_55 ?_
      refine v_imul (pc := 56) K dX4_keep_56 ?_
      refine v_iload2 (pc := 57) K dX4_keep_57 ?_
      refine v_iadd (pc := 58) K dX4_keep_58 ?_
      refine v_aload0 (pc := 59) K dX4_keep_59 ?_
      refine v_getR (pc := 60) K fl_RX4_13 dX4_keep_60 (Nat.le_of_ble_eq_true rfl) rfl rfl ?_
      refine v_iload2 (pc := 63) K dX4_keep_63 ?_
      obtain ⟨j16, h17, h⟩ := bd h
      refine v_zaload (pc := 64) K dX4_keep_64 (Nat.le_of_ble_eq_true rfl) rfl h17 ?_
      obtain ⟨j18, h19, h⟩ := bd h
      refine v_zastore (pc := 65) K dX4_keep_65 (Nat.le_of_ble_eq_true rfl) rfl h19 ?_
      refine v_iinc2 (pc := 66) (w := 1) K dX4_keep_66 rfl (Nat.le_of_ble_eq_true rfl) (by decide) ?_
      refine v_goto (pc := 69) (tgt := 23) K dX4_keep_69 (by decide) ?_
      have e := lfc h hk
      exact e
  · have h := it c3 h
    refine v_aload0 (pc := 15) K dX4_keep_15 ?_
    refine v_ic1 (pc := 16) K dX4_keep_16 ?_
    obtain ⟨v53, h54, h⟩ := bd h
    refine v_cV1I (pc := 17)  K ca_yX4_fails ml_RX4_105 (Nat.le_of_ble_eq_true rfl) rfl rfl (t_X4_fails _ K.nt K.ad (sI σ 0 0 (0 : Int32)) (1 : Int32) v53 h54) (Nat.le_of_ble_eq_true rfl) (by decide) (by decide) dX4_keep_17 ?_
    cases h
    exact v_iret (pc := 20) K dX4_keep_20 rfl rfl
set_option maxRecDepth 100000 in
def m_X4_back (σ : St) (a0 : Int32) : Option (Int32 × St) :=
  ((m_X4_isIn (sI σ 0 0 (0 : Int32)) ((a0).toInt64) (0 : Int64) (1 : Int64)).bind fun v1 => (if v1 = 0 then ((m_X4_fails (sI σ 0 0 (0 : Int32)) (1 : Int32)).bind fun v56 => some (v56.1, v56.2)) else ((ix a0 2).bind fun j4 => (if (sI σ 0 0 (0 : Int32)).1 19 j4 = 0 then ((m_X4_fails (sI σ 0 0 (0 : Int32)) (2 : Int32)).bind fun v54 => some (v54.1, v54.2)) else ((lp 5000 (fun (s7 : Int32 × St) => (if (1152 : Int32) ≤ s7.1 then some (.inr s7.2) else ((ix (((1152 : Int32) * a0) + s7.1) 2304).bind fun j15 => ((ix s7.1 1152).bind fun j17 => ((ix (((1152 : Int32) * a0) + s7.1) 2304).bind fun j19 => ((ix s7.1 1152).bind fun j21 => some (.inl ((s7.1 + 1), (sI (sL s7.2 1 j17 (s7.2.2 13 j15)) 2 j21 (nz ((sL s7.2 1 j17 (s7.2.2 13 j15)).1 14 j19))))))))))) ((0 : Int32), (sI σ 0 0 (0 : Int32)))).bind fun (r8 : St) => ((lp 5000 (fun (s23 : Int32 × St) => (if (1536 : Int32) ≤ s23.1 then some (.inr s23.2) else ((ix (((1536 : Int32) * a0) + s23.1) 3072).bind fun j31 => ((ix s23.1 1536).bind fun j33 => some (.inl ((s23.1 + 1), (sI s23.2 4 j33 (nz (s23.2.1 15 j31))))))))) ((0 : Int32), r8)).bind fun (r24 : St) => ((lp 5000 (fun (s35 : Int32 × St) => (if (6 : Int32) ≤ s35.1 then some (.inr s35.2) else ((ix (((6 : Int32) * a0) + s35.1) 12).bind fun j43 => ((ix s35.1 6).bind fun j45 => some (.inl ((s35.1 + 1), (sI s35.2 3 j45 (s35.2.1 16 j43)))))))) ((0 : Int32), r24)).bind fun (r36 : St) => ((ix a0 2).bind fun j47 => ((ix a0 2).bind fun j49 => some ((sI (sI r36 0 5 (r36.1 17 j47)) 0 6 ((sI r36 0 5 (r36.1 17 j47)).1 18 j49)).1 0 5, (sI (sI r36 0 5 (r36.1 17 j47)) 0 6 ((sI r36 0 5 (r36.1 17 j47)).1 18 j49))))))))))))
set_option maxHeartbeats 4000000 in
set_option maxRecDepth 100000 in
theorem t_X4_back (l : Launch) (hnt : l.stackTraces = false) {E : Ev} {base : Nat} (hE : Adr YM E base) (σ : St) (a0 : Int32) (r : Int32 × St) (h : m_X4_back σ a0 = some r) : Ctr l yX4_back cX4_back 3 (some .int) 1 25 YM E base [.ref (E.2.2 0), .int a0] σ (.ok (some (.int r.1))) r.2 := by
  unfold m_X4_back at h
  refine ofV 1 (by decide +kernel) rfl hE hnt (Nat.le_of_ble_eq_true rfl) rfl (fun M hN K => ?_)
  refine v_aload0 (pc := 0) K dX4_back_0 ?_
  refine v_ic0 (pc := 1) K dX4_back_1 ?_
  refine v_put (pc := 2) K fw_RX4_69 dX4_back_2 rfl rfl (Nat.le_of_ble_eq_true rfl) rfl rfl ?_
  refine v_iload1 (pc := 5) K dX4_back_5 ?_
  refine v_i2l (pc := 6) K dX4_back_6 ?_
  refine v_lc0 (pc := 7) K dX4_back_7 ?_
  refine v_lc1 (pc := 8) K dX4_back_8 ?_
  obtain ⟨v1, h2, h⟩ := bd h
  refine v_cS3I (pc := 9)  K ca_yX4_isIn ml_RX4_76 (t_X4_isIn _ K.nt K.ad (sI σ 0 0 (0 : Int32)) ((a0).toInt64) (0 : Int64) (1 : Int64) v1 h2) (Nat.le_of_ble_eq_true rfl) (by decide) (by decide) dX4_back_9 ?_
  refine v_if_ne (pc := 12) (tgt := 21) K dX4_back_12 (by decide) (fun c3 => ?_) (fun c3 => ?_)
  · have h := ie c3 h
    refine v_aload0 (pc := 21) K dX4_back_21 ?_
    refine v_getR (pc := 22) K fl_RX4_66 dX4_back_22 (Nat.le_of_ble_eq_true rfl) rfl rfl ?_
    refine v_iload1 (pc := 25) K dX4_back_25 ?_
    obtain ⟨j4, h5, h⟩ := bd h
    refine v_zaload (pc := 26) K dX4_back_26 (Nat.le_of_ble_eq_true rfl) rfl h5 ?_
    refine v_if_ne (pc := 27) (tgt := 36) K dX4_back_27 (by decide) (fun c6 => ?_) (fun c6 => ?_)
    · have h := ie c6 h
      refine v_ic0 (pc := 36) K dX4_back_36 ?_
      refine v_istore2 (pc := 37) K dX4_back_37 rfl (Nat.le_of_ble_eq_true rfl) ?_
      obtain ⟨r8, h10, h⟩ := bd h
      have hJ9 : V (mkX M YM E base 3 (.ok (some (.int r.1))) r.2) r8 87 [some (.ref (E.2.2 0)), some (.int a0), none] [] := by
        refine v_ic0 (pc := 87) K dX4_back_87 ?_
        refine v_istore2 (pc := 88) K dX4_back_88 rfl (Nat.le_of_ble_eq_true rfl) ?_
        obtain ⟨r24, h26, h⟩ := bd h
        have hJ25 : V (mkX M YM E base 3 (.ok (some (.int r.1))) r.2) r24 120 [some (.ref (E.2.2 0)), some (.int a0), none] [] := by
          refine v_ic0 (pc := 120) K dX4_back_120 ?_
          refine v_istore2 (pc := 121) K dX4_back_121 rfl (Nat.le_of_ble_eq_true rfl) ?_
          obtain ⟨r36, h38, h⟩ := bd h
          have hJ37 : V (mkX M YM E base 3 (.ok (some (.int r.1))) r.2) r36 151 [some (.ref (E.2.2 0)), some (.int a0), none] [] := by
            refine v_aload0 (pc := 151) K dX4_back_151 ?_
            refine v_aload0 (pc := 152) K dX4_back_152 ?_
            refine v_getR (pc := 153) K fl_RX4_60 dX4_back_153 (Nat.le_of_ble_eq_true rfl) rfl rfl ?_
            refine v_iload1 (pc := 156) K dX4_back_156 ?_
            obtain ⟨j47, h48, h⟩ := bd h
            refine v_iaload (pc := 157) K dX4_back_157 (Nat.le_of_ble_eq_true rfl) rfl h48 ?_
            refine v_put (pc := 158) K fw_RX4_80 dX4_back_158 rfl rfl (Nat.le_of_ble_eq_true rfl) rfl rfl ?_
            refine v_aload0 (pc := 161) K dX4_back_161 ?_
            refine v_aload0 (pc := 162) K dX4_back_162 ?_
            refine v_getR (pc := 163) K fl_RX4_63 dX4_back_163 (Nat.le_of_ble_eq_true rfl) rfl rfl ?_
            refine v_iload1 (pc := 166) K dX4_back_166 ?_
            obtain ⟨j49, h50, h⟩ := bd h
            refine v_iaload (pc := 167) K dX4_back_167 (Nat.le_of_ble_eq_true rfl) rfl h50 ?_
            refine v_put (pc := 168) K fw_RX4_73 dX4_back_168 rfl rfl (Nat.le_of_ble_eq_true rfl) rfl rfl ?_
            refine v_aload0 (pc := 171) K dX4_back_171 ?_
            refine v_getI (pc := 172) K fl_RX4_80 dX4_back_172 (Nat.le_of_ble_eq_true rfl) rfl rfl ?_
            cases h
            exact v_iret (pc := 175) K dX4_back_175 rfl rfl
          clear h
          have hL51 := lpv h38 (fun s35 : Int32 × St => V (mkX M YM E base 3 (.ok (some (.int r.1))) r.2) s35.2 122 [some (.ref (E.2.2 0)), some (.int a0), some (.int s35.1)] [])
          refine hL51 (fun s35 o h hk => ?_)
          refine v_iload2 (pc := 122) K dX4_back_122 ?_
          refine v_bipush (pc := 123) (v := 6) K dX4_back_123 (by decide) ?_
          refine v_icmp_ge (pc := 125) (tgt := 151) K dX4_back_125 (by decide) (fun c42 => ?_) (fun c42 => ?_)
          · have h := it c42 h
            have e := lx h hk
            cases e
            exact v_fg [true, true, false] hJ37
          · have h := ie c42 h
            refine v_aload0 (pc := 128) K dX4_back_128 ?_
            refine v_getR (pc := 129) K fl_RX4_17 dX4_back_129 (Nat.le_of_ble_eq_true rfl) rfl rfl ?_
            refine v_iload2 (pc := 132) K dX4_back_132 ?_
            refine v_aload0 (pc := 133) K dX4_back_133 ?_
            refine v_getR (pc := 134) K fl_RX4_57 dX4_back_134 (Nat.le_of_ble_eq_true rfl) rfl rfl ?_
            refine v_bipush (pc := 137) (v := 6) K dX4_back_137 (by decide) ?_
            refine v_iload1 (pc := 139) K dX4_back_139 ?_
            refine v_imul (pc := 140) K dX4_back_140 ?_
            refine v_iload2 (pc := 141) K dX4_back_141 ?_
            refine v_iadd (pc := 142) K dX4_back_142 ?_
            obtain ⟨j43, h44, h⟩ := bd h
            refine v_iaload (pc := 143) K dX4_back_143 (Nat.le_of_ble_eq_true rfl) rfl h44 ?_
            obtain ⟨j45, h46, h⟩ := bd h
            refine v_iastore (pc := 144) K dX4_back_144 (Nat.le_of_ble_eq_true rfl) rfl h46 ?_
            refine v_iinc2 (pc := 145) (w := 1) K dX4_back_145 rfl (Nat.le_of_ble_eq_true rfl) (by decide) ?_
            refine v_goto (pc := 148) (tgt := 122) K dX4_back_148 (by decide) ?_
            have e := lfc h hk
            exact e
        clear h
        have hL52 := lpv h26 (fun s23 : Int32 × St => V (mkX M YM E base 3 (.ok (some (.int r.1))) r.2) s23.2 89 [some (.ref (E.2.2 0)), some (.int a0), some (.int s23.1)] [])
        refine hL52 (fun s23 o h hk => ?_)
        refine v_iload2 (pc := 89) K dX4_back_89 ?_
        refine v_sipush (pc := 90) (v := 1536) K dX4_back_90 (by decide) ?_
        refine v_icmp_ge (pc := 93) (tgt := 120) K dX4_back_93 (by decide) (fun c30 => ?_) (fun c30 => ?_)
        · have h := it c30 h
          have e := lx h hk
          cases e
          exact v_fg [true, true, false] hJ25
        · have h := ie c30 h
          refine v_aload0 (pc := 96) K dX4_back_96 ?_
          refine v_getR (pc := 97) K fl_RX4_21 dX4_back_97 (Nat.le_of_ble_eq_true rfl) rfl rfl ?_
          refine v_iload2 (pc := 100) K dX4_back_100 ?_
          refine v_aload0 (pc := 101) K dX4_back_101 ?_
          refine v_getR (pc := 102) K fl_RX4_54 dX4_back_102 (Nat.le_of_ble_eq_true rfl) rfl rfl ?_
          refine v_sipush (pc := 105) (v := 1536) K dX4_back_105 (by decide) ?_
          refine v_iload1 (pc := 108) K dX4_back_108 ?_
          refine v_imul (pc := 109) K dX4_back_109 ?_
          refine v_iload2 (pc := 110) K dX4_back_110 ?_
          refine v_iadd (pc := 111) K dX4_back_111 ?_
          obtain ⟨j31, h32, h⟩ := bd h
          refine v_zaload (pc := 112) K dX4_back_112 (Nat.le_of_ble_eq_true rfl) rfl h32 ?_
          obtain ⟨j33, h34, h⟩ := bd h
          refine v_zastore (pc := 113) K dX4_back_113 (Nat.le_of_ble_eq_true rfl) rfl h34 ?_
          refine v_iinc2 (pc := 114) (w := 1) K dX4_back_114 rfl (Nat.le_of_ble_eq_true rfl) (by decide) ?_
          refine v_goto (pc := 117) (tgt := 89) K dX4_back_117 (by decide) ?_
          have e := lfc h hk
          exact e
      clear h
      have hL53 := lpv h10 (fun s7 : Int32 × St => V (mkX M YM E base 3 (.ok (some (.int r.1))) r.2) s7.2 38 [some (.ref (E.2.2 0)), some (.int a0), some (.int s7.1)] [])
      refine hL53 (fun s7 o h hk => ?_)
      refine v_iload2 (pc := 38) K dX4_back_38 ?_
      refine v_sipush (pc := 39) (v := 1152) K dX4_back_39 (by decide) ?_
      refine v_icmp_ge (pc := 42) (tgt := 87) K dX4_back_42 (by decide) (fun c14 => ?_) (fun c14 => ?_)
      · have h := it c14 h
        have e := lx h hk
        cases e
        exact v_fg [true, true, false] hJ9
      · have h := ie c14 h
        refine v_aload0 (pc := 45) K dX4_back_45 ?_
        refine v_getR (pc := 46) K fl_RX4_7 dX4_back_46 (Nat.le_of_ble_eq_true rfl) rfl rfl ?_
        refine v_iload2 (pc := 49) K dX4_back_49 ?_
        refine v_aload0 (pc := 50) K dX4_back_50 ?_
        refine v_getR (pc := 51) K fl_RX4_48 dX4_back_51 (Nat.le_of_ble_eq_true rfl) rfl rfl ?_
        refine v_sipush (pc := 54) (v := 1152) K dX4_back_54 (by decide) ?_
        refine v_iload1 (pc := 57) K dX4_back_57 ?_
        refine v_imul (pc := 58) K dX4_back_58 ?_
        refine v_iload2 (pc := 59) K dX4_back_59 ?_
        refine v_iadd (pc := 60) K dX4_back_60 ?_
        obtain ⟨j15, h16, h⟩ := bd h
        refine v_laload (pc := 61) K dX4_back_61 (Nat.le_of_ble_eq_true rfl) rfl h16 ?_
        obtain ⟨j17, h18, h⟩ := bd h
        refine v_lastore (pc := 62) K dX4_back_62 (Nat.le_of_ble_eq_true rfl) rfl h18 ?_
        refine v_aload0 (pc := 63) K dX4_back_63 ?_
        refine v_getR (pc := 64) K fl_RX4_13 dX4_back_64 (Nat.le_of_ble_eq_true rfl) rfl rfl ?_
        refine v_iload2 (pc := 67) K dX4_back_67 ?_
        refine v_aload0 (pc := 68) K dX4_back_68 ?_
        refine v_getR (pc := 69) K fl_RX4_51 dX4_back_69 (Nat.le_of_ble_eq_true rfl) rfl rfl ?_
        refine v_sipush (pc := 72) (v := 1152) K dX4_back_72 (by decide) ?_
        refine v_iload1 (pc := 75) K dX4_back_75 ?_
        refine v_imul (pc := 76) K dX4_back_76 ?_
        refine v_iload2 (pc := 77) K dX4_back_77 ?_
        refine v_iadd (pc := 78) K dX4_back_78 ?_
        obtain ⟨j19, h20, h⟩ := bd h
        refine v_zaload (pc := 79) K dX4_back_79 (Nat.le_of_ble_eq_true rfl) rfl h20 ?_
        obtain ⟨j21, h22, h⟩ := bd h
        refine v_zastore (pc := 80) K dX4_back_80 (Nat.le_of_ble_eq_true rfl) rfl h22 ?_
        refine v_iinc2 (pc := 81) (w := 1) K dX4_back_81 rfl (Nat.le_of_ble_eq_true rfl) (by decide) ?_
        refine v_goto (pc := 84) (tgt := 38) K dX4_back_84 (by decide) ?_
        have e := lfc h hk
        exact e
    · have h := it c6 h
      refine v_aload0 (pc := 30) K dX4_back_30 ?_
      refine v_ic2 (pc := 31) K dX4_back_31 ?_
      obtain ⟨v54, h55, h⟩ := bd h
      refine v_cV1I (pc := 32)  K ca_yX4_fails ml_RX4_105 (Nat.le_of_ble_eq_true rfl) rfl rfl (t_X4_fails _ K.nt K.ad (sI σ 0 0 (0 : Int32)) (2 : Int32) v54 h55) (Nat.le_of_ble_eq_true rfl) (by decide) (by decide) dX4_back_32 ?_
      cases h
      exact v_iret (pc := 35) K dX4_back_35 rfl rfl
  · have h := it c3 h
    refine v_aload0 (pc := 15) K dX4_back_15 ?_
    refine v_ic1 (pc := 16) K dX4_back_16 ?_
    obtain ⟨v56, h57, h⟩ := bd h
    refine v_cV1I (pc := 17)  K ca_yX4_fails ml_RX4_105 (Nat.le_of_ble_eq_true rfl) rfl rfl (t_X4_fails _ K.nt K.ad (sI σ 0 0 (0 : Int32)) (1 : Int32) v56 h57) (Nat.le_of_ble_eq_true rfl) (by decide) (by decide) dX4_back_17 ?_
    cases h
    exact v_iret (pc := 20) K dX4_back_20 rfl rfl
