set_option maxRecDepth 100000 in
def m_X4_thrown (σ : St) : Option (Int32) :=
  some (σ.1 0 0)
set_option maxHeartbeats 4000000 in
set_option maxRecDepth 100000 in
theorem t_X4_thrown (l : Launch) (hnt : l.stackTraces = false) {E : Ev} {base : Nat} (hE : Adr YM E base) (σ : St) (r : Int32) (h : m_X4_thrown σ = some r) : Ctr l yX4_thrown cX4_thrown 1 (some .int) 0 0 YM E base [.ref (E.2.2 0)] σ (.ok (some (.int r))) σ := by
  unfold m_X4_thrown at h
  refine ofV 0 (by decide +kernel) rfl hE hnt (Nat.le_of_ble_eq_true rfl) rfl (fun M hN K => ?_)
  refine v_aload0 (pc := 0) K dX4_thrown_0 ?_
  refine v_getI (pc := 1) K fl_RX4_69 dX4_thrown_1 (Nat.le_of_ble_eq_true rfl) rfl rfl ?_
  cases h
  exact v_iret (pc := 4) K dX4_thrown_4 rfl rfl
set_option maxRecDepth 100000 in
def m_X4_isIn (σ : St) (a0 : Int64) (a1 : Int64) (a2 : Int64) : Option (Int32) :=
  ((if a0 < a1 then some (0 : Int32) else (if a2 < a0 then some (0 : Int32) else some (1 : Int32))).bind fun (t1 : Int32) => some (nz t1))
set_option maxHeartbeats 4000000 in
set_option maxRecDepth 100000 in
theorem t_X4_isIn (l : Launch) (hnt : l.stackTraces = false) {E : Ev} {base : Nat} (hE : Adr YM E base) (σ : St) (a0 : Int64) (a1 : Int64) (a2 : Int64) (r : Int32) (h : m_X4_isIn σ a0 a1 a2 = some r) : Ctr l yX4_isIn cX4_isIn 6 (some .boolean) 0 0 YM E base [.long a0, .long a1, .long a2] σ (.ok (some (.int r))) σ := by
  unfold m_X4_isIn at h
  refine ofV 0 (by decide +kernel) rfl hE hnt (Nat.le_of_ble_eq_true rfl) rfl (fun M hN K => ?_)
  refine v_lload0 (pc := 0) K dX4_isIn_0 ?_
  refine v_lload2 (pc := 1) K dX4_isIn_1 ?_
  obtain ⟨t1, h3, h⟩ := bd h
  have hJ2 : V (mkX M YM E base 6 (.ok (some (.int r))) σ) σ 18 [none, none, none, none, none, none] [.int t1] := by
    cases h
    exact v_zret (pc := 18) K dX4_isIn_18 rfl rfl
  clear h
  have h := h3
  refine v_lc_lt (pc := 2) (tgt := 17) K dX4_isIn_2 dX4_isIn_3 (by decide) (fun c4 => ?_) (fun c4 => ?_)
  · have h := it c4 h
    refine v_ic0 (pc := 17) K dX4_isIn_17 ?_
    cases h
    exact (v_fg [false, true, false, true, false, true] hJ2)
  · have h := ie c4 h
    refine v_lload0 (pc := 6) K dX4_isIn_6 ?_
    refine v_lload4 (pc := 7) K dX4_isIn_7 ?_
    refine v_lc_gt (pc := 9) (tgt := 17) K dX4_isIn_9 dX4_isIn_10 (by decide) (fun c5 => ?_) (fun c5 => ?_)
    · have h := it c5 h
      refine v_ic0 (pc := 17) K dX4_isIn_17 ?_
      cases h
      exact (v_fg [false, true, false, true, false, true] hJ2)
    · have h := ie c5 h
      refine v_ic1 (pc := 13) K dX4_isIn_13 ?_
      refine v_goto (pc := 14) (tgt := 18) K dX4_isIn_14 (by decide) ?_
      cases h
      exact (v_fg [false, true, false, true, false, true] hJ2)
set_option maxRecDepth 100000 in
def m_X4_fails (σ : St) (a0 : Int32) : Option (Int32 × St) :=
  some ((0 : Int32), (sI σ 0 0 a0))
set_option maxHeartbeats 4000000 in
set_option maxRecDepth 100000 in
theorem t_X4_fails (l : Launch) (hnt : l.stackTraces = false) {E : Ev} {base : Nat} (hE : Adr YM E base) (σ : St) (a0 : Int32) (r : Int32 × St) (h : m_X4_fails σ a0 = some r) : Ctr l yX4_fails cX4_fails 2 (some .int) 0 0 YM E base [.ref (E.2.2 0), .int a0] σ (.ok (some (.int r.1))) r.2 := by
  unfold m_X4_fails at h
  refine ofV 0 (by decide +kernel) rfl hE hnt (Nat.le_of_ble_eq_true rfl) rfl (fun M hN K => ?_)
  refine v_aload0 (pc := 0) K dX4_fails_0 ?_
  refine v_iload1 (pc := 1) K dX4_fails_1 ?_
  refine v_put (pc := 2) K fw_RX4_69 dX4_fails_2 rfl rfl (Nat.le_of_ble_eq_true rfl) rfl rfl ?_
  refine v_ic0 (pc := 5) K dX4_fails_5 ?_
  cases h
  exact v_iret (pc := 6) K dX4_fails_6 rfl rfl
set_option maxRecDepth 100000 in
def m_X4_at (σ : St) (a0 : Int32) (a1 : Int32) : Option (Int32) :=
  some (((192 : Int32) * a0) + a1)
set_option maxHeartbeats 4000000 in
set_option maxRecDepth 100000 in
theorem t_X4_at (l : Launch) (hnt : l.stackTraces = false) {E : Ev} {base : Nat} (hE : Adr YM E base) (σ : St) (a0 : Int32) (a1 : Int32) (r : Int32) (h : m_X4_at σ a0 a1 = some r) : Ctr l yX4_at cX4_at 2 (some .int) 0 0 YM E base [.int a0, .int a1] σ (.ok (some (.int r))) σ := by
  unfold m_X4_at at h
  refine ofV 0 (by decide +kernel) rfl hE hnt (Nat.le_of_ble_eq_true rfl) rfl (fun M hN K => ?_)
  refine v_sipush (pc := 0) (v := 192) K dX4_at_0 (by decide) ?_
  refine v_iload0 (pc := 3) K dX4_at_3 ?_
  refine v_imul (pc := 4) K dX4_at_4 ?_
  refine v_iload1 (pc := 5) K dX4_at_5 ?_
  refine v_iadd (pc := 6) K dX4_at_6 ?_
  cases h
  exact v_iret (pc := 7) K dX4_at_7 rfl rfl
set_option maxRecDepth 100000 in
def m_X4_column (σ : St) (a0 : Int32) : Option (Int32 × St) :=
  ((m_X4_isIn (sI σ 0 0 (0 : Int32)) ((a0).toInt64) (2 : Int64) (63 : Int64)).bind fun v1 => (if v1 = 0 then ((m_X4_fails (sI σ 0 0 (0 : Int32)) (1 : Int32)).bind fun v22 => some (v22.1, v22.2)) else (if (sI σ 0 0 (0 : Int32)).1 0 6 = (6 : Int32) then ((m_X4_fails (sI σ 0 0 (0 : Int32)) (2 : Int32)).bind fun v20 => some (v20.1, v20.2)) else ((ix ((sI σ 0 0 (0 : Int32)).1 0 6) 6).bind fun j5 => ((lp 5000 (fun (s7 : Int32 × St) => (if (192 : Int32) ≤ s7.1 then some (.inr s7.2) else ((m_X4_at s7.2 (s7.2.1 0 6) s7.1).bind fun v15 => ((ix v15 1152).bind fun j17 => some (.inl ((s7.1 + 1), (sI s7.2 2 j17 (nz (0 : Int32))))))))) ((0 : Int32), (sI (sI σ 0 0 (0 : Int32)) 3 j5 a0))).bind fun (r8 : St) => some (((sI r8 0 6 (r8.1 0 6 + (1 : Int32))).1 0 6 - (1 : Int32)), (sI r8 0 6 (r8.1 0 6 + (1 : Int32)))))))))
set_option maxHeartbeats 4000000 in
set_option maxRecDepth 100000 in
theorem t_X4_column (l : Launch) (hnt : l.stackTraces = false) {E : Ev} {base : Nat} (hE : Adr YM E base) (σ : St) (a0 : Int32) (r : Int32 × St) (h : m_X4_column σ a0 = some r) : Ctr l yX4_column cX4_column 3 (some .int) 1 25 YM E base [.ref (E.2.2 0), .int a0] σ (.ok (some (.int r.1))) r.2 := by
  unfold m_X4_column at h
  refine ofV 1 (by decide +kernel) rfl hE hnt (Nat.le_of_ble_eq_true rfl) rfl (fun M hN K => ?_)
  refine v_aload0 (pc := 0) K dX4_column_0 ?_
  refine v_ic0 (pc := 1) K dX4_column_1 ?_
  refine v_put (pc := 2) K fw_RX4_69 dX4_column_2 rfl rfl (Nat.le_of_ble_eq_true rfl) rfl rfl ?_
  refine v_iload1 (pc := 5) K dX4_column_5 ?_
  refine v_i2l (pc := 6) K dX4_column_6 ?_
  refine v_ldc2 (pc := 7) K dX4_column_7 cl_RX4_85 ?_
  refine v_ldc2 (pc := 10) K dX4_column_10 cl_RX4_109 ?_
  obtain ⟨v1, h2, h⟩ := bd h
  refine v_cS3I (pc := 13)  K ca_yX4_isIn ml_RX4_76 (t_X4_isIn _ K.nt K.ad (sI σ 0 0 (0 : Int32)) ((a0).toInt64) (2 : Int64) (63 : Int64) v1 h2) (Nat.le_of_ble_eq_true rfl) (by decide) (by decide) dX4_column_13 ?_
  refine v_if_ne (pc := 16) (tgt := 25) K dX4_column_16 (by decide) (fun c3 => ?_) (fun c3 => ?_)
  · have h := ie c3 h
    refine v_aload0 (pc := 25) K dX4_column_25 ?_
    refine v_getI (pc := 26) K fl_RX4_73 dX4_column_26 (Nat.le_of_ble_eq_true rfl) rfl rfl ?_
    refine v_bipush (pc := 29) (v := 6) K dX4_column_29 (by decide) ?_
    refine v_icmp_ne (pc := 31) (tgt := 40) K dX4_column_31 (by decide) (fun c4 => ?_) (fun c4 => ?_)
    · have h := ie c4 h
      refine v_aload0 (pc := 40) K dX4_column_40 ?_
      refine v_getR (pc := 41) K fl_RX4_17 dX4_column_41 (Nat.le_of_ble_eq_true rfl) rfl rfl ?_
      refine v_aload0 (pc := 44) K dX4_column_44 ?_
      refine v_getI (pc := 45) K fl_RX4_73 dX4_column_45 (Nat.le_of_ble_eq_true rfl) rfl rfl ?_
      refine v_iload1 (pc := 48) K dX4_column_48 ?_
      obtain ⟨j5, h6, h⟩ := bd h
      refine v_iastore (pc := 49) K dX4_column_49 (Nat.le_of_ble_eq_true rfl) rfl h6 ?_
      refine v_ic0 (pc := 50) K dX4_column_50 ?_
      refine v_istore2 (pc := 51) K dX4_column_51 rfl (Nat.le_of_ble_eq_true rfl) ?_
      obtain ⟨r8, h10, h⟩ := bd h
      have hJ9 : V (mkX M YM E base 3 (.ok (some (.int r.1))) r.2) r8 79 [some (.ref (E.2.2 0)), none, none] [] := by
        refine v_aload0 (pc := 79) K dX4_column_79 ?_
        refine v_dupR (pc := 80) K dX4_column_80 ?_
        refine v_getI (pc := 81) K fl_RX4_73 dX4_column_81 (Nat.le_of_ble_eq_true rfl) rfl rfl ?_
        refine v_ic1 (pc := 84) K dX4_column_84 ?_
        refine v_iadd (pc := 85) K dX4_column_85 ?_
        refine v_put (pc := 86) K fw_RX4_73 dX4_column_86 rfl rfl (Nat.le_of_ble_eq_true rfl) rfl rfl ?_
        refine v_aload0 (pc := 89) K dX4_column_89 ?_
        refine v_getI (pc := 90) K fl_RX4_73 dX4_column_90 (Nat.le_of_ble_eq_true rfl) rfl rfl ?_
        refine v_ic1 (pc := 93) K dX4_column_93 ?_
        refine v_isub (pc := 94) K dX4_column_94 ?_
        cases h
        exact v_iret (pc := 95) K dX4_column_95 rfl rfl
      clear h
      refine v_fg [true, false, true] ?_
      have hL19 := lpv h10 (fun s7 : Int32 × St => V (mkX M YM E base 3 (.ok (some (.int r.1))) r.2) s7.2 52 [some (.ref (E.2.2 0)), none, some (.int s7.1)] [])
      refine hL19 (fun s7 o h hk => ?_)
      refine v_iload2 (pc := 52) K dX4_column_52 ?_
      refine v_sipush (pc := 53) (v := 192) K dX4_column_53 (by decide) ?_
      refine v_icmp_ge (pc := 56) (tgt := 79) K dX4_column_56 (by decide) (fun c14 => ?_) (fun c14 => ?_)
      · have h := it c14 h
        have e := lx h hk
        cases e
        exact v_fg [true, true, false] hJ9
      · have h := ie c14 h
        refine v_aload0 (pc := 59) K dX4_column_59 ?_
        refine v_getR (pc := 60) K fl_RX4_13 dX4_column_60 (Nat.le_of_ble_eq_true rfl) rfl rfl ?_
        refine v_aload0 (pc := 63) K dX4_column_63 ?_
        refine v_getI (pc := 64) K fl_RX4_73 dX4_column_64 (Nat.le_of_ble_eq_true rfl) rfl rfl ?_
        refine v_iload2 (pc := 67) K dX4_column_67 ?_
        obtain ⟨v15, h16, h⟩ := bd h
        refine v_cS2I (pc := 68)  K ca_yX4_at ml_RX4_94 (t_X4_at _ K.nt K.ad s7.2 (s7.2.1 0 6) s7.1 v15 h16) (Nat.le_of_ble_eq_true rfl) (by decide) (by decide) dX4_column_68 ?_
        refine v_ic0 (pc := 71) K dX4_column_71 ?_
        obtain ⟨j17, h18, h⟩ := bd h
        refine v_zastore (pc := 72) K dX4_column_72 (Nat.le_of_ble_eq_true rfl) rfl h18 ?_
        refine v_iinc2 (pc := 73) (w := 1) K dX4_column_73 rfl (Nat.le_of_ble_eq_true rfl) (by decide) ?_
        refine v_goto (pc := 76) (tgt := 52) K dX4_column_76 (by decide) ?_
        have e := lfc h hk
        exact e
    · have h := it c4 h
      refine v_aload0 (pc := 34) K dX4_column_34 ?_
      refine v_ic2 (pc := 35) K dX4_column_35 ?_
      obtain ⟨v20, h21, h⟩ := bd h
      refine v_cV1I (pc := 36)  K ca_yX4_fails ml_RX4_105 (Nat.le_of_ble_eq_true rfl) rfl rfl (t_X4_fails _ K.nt K.ad (sI σ 0 0 (0 : Int32)) (2 : Int32) v20 h21) (Nat.le_of_ble_eq_true rfl) (by decide) (by decide) dX4_column_36 ?_
      cases h
      exact v_iret (pc := 39) K dX4_column_39 rfl rfl
  · have h := it c3 h
    refine v_aload0 (pc := 19) K dX4_column_19 ?_
    refine v_ic1 (pc := 20) K dX4_column_20 ?_
    obtain ⟨v22, h23, h⟩ := bd h
    refine v_cV1I (pc := 21)  K ca_yX4_fails ml_RX4_105 (Nat.le_of_ble_eq_true rfl) rfl rfl (t_X4_fails _ K.nt K.ad (sI σ 0 0 (0 : Int32)) (1 : Int32) v22 h23) (Nat.le_of_ble_eq_true rfl) (by decide) (by decide) dX4_column_21 ?_
    cases h
    exact v_iret (pc := 24) K dX4_column_24 rfl rfl
set_option maxRecDepth 100000 in
def m_X4_isColumn (σ : St) (a0 : Int32) : Option (Int32) :=
  ((m_X4_isIn σ ((a0).toInt64) (0 : Int64) (((σ.1 0 6 - (1 : Int32))).toInt64)).bind fun v1 => some (nz v1))
set_option maxHeartbeats 4000000 in
set_option maxRecDepth 100000 in
theorem t_X4_isColumn (l : Launch) (hnt : l.stackTraces = false) {E : Ev} {base : Nat} (hE : Adr YM E base) (σ : St) (a0 : Int32) (r : Int32) (h : m_X4_isColumn σ a0 = some r) : Ctr l yX4_isColumn cX4_isColumn 2 (some .boolean) 1 25 YM E base [.ref (E.2.2 0), .int a0] σ (.ok (some (.int r))) σ := by
  unfold m_X4_isColumn at h
  refine ofV 0 (by decide +kernel) rfl hE hnt (Nat.le_of_ble_eq_true rfl) rfl (fun M hN K => ?_)
  refine v_iload1 (pc := 0) K dX4_isColumn_0 ?_
  refine v_i2l (pc := 1) K dX4_isColumn_1 ?_
  refine v_lc0 (pc := 2) K dX4_isColumn_2 ?_
  refine v_aload0 (pc := 3) K dX4_isColumn_3 ?_
  refine v_getI (pc := 4) K fl_RX4_73 dX4_isColumn_4 (Nat.le_of_ble_eq_true rfl) rfl rfl ?_
  refine v_ic1 (pc := 7) K dX4_isColumn_7 ?_
  refine v_isub (pc := 8) K dX4_isColumn_8 ?_
  refine v_i2l (pc := 9) K dX4_isColumn_9 ?_
  obtain ⟨v1, h2, h⟩ := bd h
  refine v_cS3I (pc := 10)  K ca_yX4_isIn ml_RX4_76 (t_X4_isIn _ K.nt K.ad σ ((a0).toInt64) (0 : Int64) (((σ.1 0 6 - (1 : Int32))).toInt64) v1 h2) (Nat.le_of_ble_eq_true rfl) (by decide) (by decide) dX4_isColumn_10 ?_
  cases h
  exact v_zret (pc := 13) K dX4_isColumn_13 rfl rfl
set_option maxRecDepth 100000 in
def m_X4_drop (σ : St) (a0 : Int32) : Option (Int32 × St) :=
  ((m_X4_isColumn (sI σ 0 0 (0 : Int32)) a0).bind fun v1 => (if v1 = 0 then ((m_X4_fails (sI σ 0 0 (0 : Int32)) (1 : Int32)).bind fun v42 => some (v42.1, v42.2)) else ((lp 5000 (fun (s4 : Int32 × St) => (if s4.2.1 0 6 ≤ s4.1 then some (.inr s4.2) else ((ix (s4.1 + (1 : Int32)) 6).bind fun j12 => ((ix s4.1 6).bind fun j14 => ((lp 5000 (fun (s16 : Int32 × St) => (if (192 : Int32) ≤ s16.1 then some (.inr s16.2) else ((m_X4_at s16.2 s4.1 s16.1).bind fun v24 => ((m_X4_at s16.2 (s4.1 + (1 : Int32)) s16.1).bind fun v26 => ((ix v26 1152).bind fun j28 => ((ix v24 1152).bind fun j30 => ((m_X4_at (sL s16.2 1 j30 (s16.2.2 1 j28)) s4.1 s16.1).bind fun v32 => ((m_X4_at (sL s16.2 1 j30 (s16.2.2 1 j28)) (s4.1 + (1 : Int32)) s16.1).bind fun v34 => ((ix v34 1152).bind fun j36 => ((ix v32 1152).bind fun j38 => some (.inl ((s16.1 + 1), (sI (sL s16.2 1 j30 (s16.2.2 1 j28)) 2 j38 (nz ((sL s16.2 1 j30 (s16.2.2 1 j28)).1 2 j36))))))))))))))) ((0 : Int32), (sI s4.2 3 j14 (s4.2.1 3 j12)))).bind fun (r17 : St) => some (.inl ((s4.1 + 1), r17))))))) (a0, (sI (sI σ 0 0 (0 : Int32)) 0 6 ((sI σ 0 0 (0 : Int32)).1 0 6 - (1 : Int32))))).bind fun (r5 : St) => some (r5.1 0 6, r5))))
set_option maxHeartbeats 4000000 in
set_option maxRecDepth 100000 in
theorem t_X4_drop (l : Launch) (hnt : l.stackTraces = false) {E : Ev} {base : Nat} (hE : Adr YM E base) (σ : St) (a0 : Int32) (r : Int32 × St) (h : m_X4_drop σ a0 = some r) : Ctr l yX4_drop cX4_drop 4 (some .int) 2 46 YM E base [.ref (E.2.2 0), .int a0] σ (.ok (some (.int r.1))) r.2 := by
  unfold m_X4_drop at h
  refine ofV 2 (by decide +kernel) rfl hE hnt (Nat.le_of_ble_eq_true rfl) rfl (fun M hN K => ?_)
  refine v_aload0 (pc := 0) K dX4_drop_0 ?_
  refine v_ic0 (pc := 1) K dX4_drop_1 ?_
  refine v_put (pc := 2) K fw_RX4_69 dX4_drop_2 rfl rfl (Nat.le_of_ble_eq_true rfl) rfl rfl ?_
  refine v_aload0 (pc := 5) K dX4_drop_5 ?_
  refine v_iload1 (pc := 6) K dX4_drop_6 ?_
  obtain ⟨v1, h2, h⟩ := bd h
  refine v_cV1I (pc := 7)  K ca_yX4_isColumn ml_RX4_87 (Nat.le_of_ble_eq_true rfl) rfl rfl (t_X4_isColumn _ K.nt K.ad (sI σ 0 0 (0 : Int32)) a0 v1 h2) (Nat.le_of_ble_eq_true rfl) (by decide) (by decide) dX4_drop_7 ?_
  refine v_if_ne (pc := 10) (tgt := 19) K dX4_drop_10 (by decide) (fun c3 => ?_) (fun c3 => ?_)
  · have h := ie c3 h
    refine v_aload0 (pc := 19) K dX4_drop_19 ?_
    refine v_dupR (pc := 20) K dX4_drop_20 ?_
    refine v_getI (pc := 21) K fl_RX4_73 dX4_drop_21 (Nat.le_of_ble_eq_true rfl) rfl rfl ?_
    refine v_ic1 (pc := 24) K dX4_drop_24 ?_
    refine v_isub (pc := 25) K dX4_drop_25 ?_
    refine v_put (pc := 26) K fw_RX4_73 dX4_drop_26 rfl rfl (Nat.le_of_ble_eq_true rfl) rfl rfl ?_
    refine v_iload1 (pc := 29) K dX4_drop_29 ?_
    refine v_istore2 (pc := 30) K dX4_drop_30 rfl (Nat.le_of_ble_eq_true rfl) ?_
    obtain ⟨r5, h7, h⟩ := bd h
    have hJ6 : V (mkX M YM E base 4 (.ok (some (.int r.1))) r.2) r5 118 [some (.ref (E.2.2 0)), none, none, none] [] := by
      refine v_aload0 (pc := 118) K dX4_drop_118 ?_
      refine v_getI (pc := 119) K fl_RX4_73 dX4_drop_119 (Nat.le_of_ble_eq_true rfl) rfl rfl ?_
      cases h
      exact v_iret (pc := 122) K dX4_drop_122 rfl rfl
    clear h
    refine v_fg [true, false, true, true] ?_
    have hL41 := lpv h7 (fun s4 : Int32 × St => V (mkX M YM E base 4 (.ok (some (.int r.1))) r.2) s4.2 31 [some (.ref (E.2.2 0)), none, some (.int s4.1), none] [])
    refine hL41 (fun s4 o h hk => ?_)
    refine v_iload2 (pc := 31) K dX4_drop_31 ?_
    refine v_aload0 (pc := 32) K dX4_drop_32 ?_
    refine v_getI (pc := 33) K fl_RX4_73 dX4_drop_33 (Nat.le_of_ble_eq_true rfl) rfl rfl ?_
    refine v_icmp_ge (pc := 36) (tgt := 118) K dX4_drop_36 (by decide) (fun c11 => ?_) (fun c11 => ?_)
    · have h := it c11 h
      have e := lx h hk
      cases e
      exact v_fg [true, true, false, true] hJ6
    · have h := ie c11 h
      refine v_aload0 (pc := 39) K dX4_drop_39 ?_
      refine v_getR (pc := 40) K fl_RX4_17 dX4_drop_40 (Nat.le_of_ble_eq_true rfl) rfl rfl ?_
      refine v_iload2 (pc := 43) K dX4_drop_43 ?_
      refine v_aload0 (pc := 44) K dX4_drop_44 ?_
      refine v_getR (pc := 45) K fl_RX4_17 dX4_drop_45 (Nat.le_of_ble_eq_true rfl) rfl rfl ?_
      refine v_iload2 (pc := 48) K dX4_drop_48 ?_
      refine v_ic1 (pc := 49) K dX4_drop_49 ?_
      refine v_iadd (pc := 50) K dX4_drop_50 ?_
      obtain ⟨j12, h13, h⟩ := bd h
      refine v_iaload (pc := 51) K dX4_drop_51 (Nat.le_of_ble_eq_true rfl) rfl h13 ?_
      obtain ⟨j14, h15, h⟩ := bd h
      refine v_iastore (pc := 52) K dX4_drop_52 (Nat.le_of_ble_eq_true rfl) rfl h15 ?_
      refine v_ic0 (pc := 53) K dX4_drop_53 ?_
      refine v_istore3 (pc := 54) K dX4_drop_54 rfl (Nat.le_of_ble_eq_true rfl) ?_
      obtain ⟨r17, h19, h⟩ := bd h
      have hJ18 : V (mkX M YM E base 4 (.ok (some (.int r.1))) r.2) r17 112 [some (.ref (E.2.2 0)), none, some (.int s4.1), none] [] := by
        refine v_iinc2 (pc := 112) (w := 1) K dX4_drop_112 rfl (Nat.le_of_ble_eq_true rfl) (by decide) ?_
        refine v_goto (pc := 115) (tgt := 31) K dX4_drop_115 (by decide) ?_
        have e := lfc h hk
        exact e
      clear h
      have hL40 := lpv h19 (fun s16 : Int32 × St => V (mkX M YM E base 4 (.ok (some (.int r.1))) r.2) s16.2 55 [some (.ref (E.2.2 0)), none, some (.int s4.1), some (.int s16.1)] [])
      refine hL40 (fun s16 o h hk => ?_)
      refine v_iload3 (pc := 55) K dX4_drop_55 ?_
      refine v_sipush (pc := 56) (v := 192) K dX4_drop_56 (by decide) ?_
      refine v_icmp_ge (pc := 59) (tgt := 112) K dX4_drop_59 (by decide) (fun c23 => ?_) (fun c23 => ?_)
      · have h := it c23 h
        have e := lx h hk
        cases e
        exact v_fg [true, true, true, false] hJ18
      · have h := ie c23 h
        refine v_aload0 (pc := 62) K dX4_drop_62 ?_
        refine v_getR (pc := 63) K fl_RX4_7 dX4_drop_63 (Nat.le_of_ble_eq_true rfl) rfl rfl ?_
        refine v_iload2 (pc := 66) K dX4_drop_66 ?_
        refine v_iload3 (pc := 67) K dX4_drop_67 ?_
        obtain ⟨v24, h25, h⟩ := bd h
        refine v_cS2I (pc := 68)  K ca_yX4_at ml_RX4_94 (t_X4_at _ K.nt K.ad s16.2 s4.1 s16.1 v24 h25) (Nat.le_of_ble_eq_true rfl) (by decide) (by decide) dX4_drop_68 ?_
        refine v_aload0 (pc := 71) K dX4_drop_71 ?_
        refine v_getR (pc := 72) K fl_RX4_7 dX4_drop_72 (Nat.le_of_ble_eq_true rfl) rfl rfl ?_
        refine v_iload2 (pc := 75) K dX4_drop_75 ?_
        refine v_ic1 (pc := 76) K dX4_drop_76 ?_
        refine v_iadd (pc := 77) K dX4_drop_77 ?_
        refine v_iload3 (pc := 78) K dX4_drop_78 ?_
        obtain ⟨v26, h27, h⟩ := bd h
        refine v_cS2I (pc := 79)  K ca_yX4_at ml_RX4_94 (t_X4_at _ K.nt K.ad s16.2 (s4.1 + (1 : Int32)) s16.1 v26 h27) (Nat.le_of_ble_eq_true rfl) (by decide) (by decide) dX4_drop_79 ?_
        obtain ⟨j28, h29, h⟩ := bd h
        refine v_laload (pc := 82) K dX4_drop_82 (Nat.le_of_ble_eq_true rfl) rfl h29 ?_
        obtain ⟨j30, h31, h⟩ := bd h
        refine v_lastore (pc := 83) K dX4_drop_83 (Nat.le_of_ble_eq_true rfl) rfl h31 ?_
        refine v_aload0 (pc := 84) K dX4_drop_84 ?_
        refine v_getR (pc := 85) K fl_RX4_13 dX4_drop_85 (Nat.le_of_ble_eq_true rfl) rfl rfl ?_
        refine v_iload2 (pc := 88) K dX4_drop_88 ?_
        refine v_iload3 (pc := 89) K dX4_drop_89 ?_
        obtain ⟨v32, h33, h⟩ := bd h
        refine v_cS2I (pc := 90)  K ca_yX4_at ml_RX4_94 (t_X4_at _ K.nt K.ad (sL s16.2 1 j30 (s16.2.2 1 j28)) s4.1 s16.1 v32 h33) (Nat.le_of_ble_eq_true rfl) (by decide) (by decide) dX4_drop_90 ?_
        refine v_aload0 (pc := 93) K dX4_drop_93 ?_
        refine v_getR (pc := 94) K fl_RX4_13 dX4_drop_94 (Nat.le_of_ble_eq_true rfl) rfl rfl ?_
        refine v_iload2 (pc := 97) K dX4_drop_97 ?_
        refine v_ic1 (pc := 98) K dX4_drop_98 ?_
        refine v_iadd (pc := 99) K dX4_drop_99 ?_
        refine v_iload3 (pc := 100) K dX4_drop_100 ?_
        obtain ⟨v34, h35, h⟩ := bd h
        refine v_cS2I (pc := 101)  K ca_yX4_at ml_RX4_94 (t_X4_at _ K.nt K.ad (sL s16.2 1 j30 (s16.2.2 1 j28)) (s4.1 + (1 : Int32)) s16.1 v34 h35) (Nat.le_of_ble_eq_true rfl) (by decide) (by decide) dX4_drop_101 ?_
        obtain ⟨j36, h37, h⟩ := bd h
        refine v_zaload (pc := 104) K dX4_drop_104 (Nat.le_of_ble_eq_true rfl) rfl h37 ?_
        obtain ⟨j38, h39, h⟩ := bd h
        refine v_zastore (pc := 105) K dX4_drop_105 (Nat.le_of_ble_eq_true rfl) rfl h39 ?_
        refine v_iinc3 (pc := 106) (w := 1) K dX4_drop_106 rfl (Nat.le_of_ble_eq_true rfl) (by decide) ?_
        refine v_goto (pc := 109) (tgt := 55) K dX4_drop_109 (by decide) ?_
        have e := lfc h hk
        exact e
  · have h := it c3 h
    refine v_aload0 (pc := 13) K dX4_drop_13 ?_
    refine v_ic1 (pc := 14) K dX4_drop_14 ?_
    obtain ⟨v42, h43, h⟩ := bd h
    refine v_cV1I (pc := 15)  K ca_yX4_fails ml_RX4_105 (Nat.le_of_ble_eq_true rfl) rfl rfl (t_X4_fails _ K.nt K.ad (sI σ 0 0 (0 : Int32)) (1 : Int32) v42 h43) (Nat.le_of_ble_eq_true rfl) (by decide) (by decide) dX4_drop_15 ?_
    cases h
    exact v_iret (pc := 18) K dX4_drop_18 rfl rfl
set_option maxRecDepth 100000 in
def m_X4_rows (σ : St) (a0 : Int32) : Option (Int32 × St) :=
  ((m_X4_isIn (sI σ 0 0 (0 : Int32)) ((a0).toInt64) (1 : Int64) (64 : Int64)).bind fun v1 => (if v1 = 0 then ((m_X4_fails (sI σ 0 0 (0 : Int32)) (1 : Int32)).bind fun v7 => some (v7.1, v7.2)) else (if ((sI σ 0 0 (0 : Int32)).1 0 5 + a0) ≤ (192 : Int32) then some ((sI (sI σ 0 0 (0 : Int32)) 0 5 ((sI σ 0 0 (0 : Int32)).1 0 5 + a0)).1 0 5, (sI (sI σ 0 0 (0 : Int32)) 0 5 ((sI σ 0 0 (0 : Int32)).1 0 5 + a0))) else ((m_X4_fails (sI σ 0 0 (0 : Int32)) (2 : Int32)).bind fun v5 => some (v5.1, v5.2)))))
set_option maxHeartbeats 4000000 in
set_option maxRecDepth 100000 in
theorem t_X4_rows (l : Launch) (hnt : l.stackTraces = false) {E : Ev} {base : Nat} (hE : Adr YM E base) (σ : St) (a0 : Int32) (r : Int32 × St) (h : m_X4_rows σ a0 = some r) : Ctr l yX4_rows cX4_rows 2 (some .int) 1 25 YM E base [.ref (E.2.2 0), .int a0] σ (.ok (some (.int r.1))) r.2 := by
  unfold m_X4_rows at h
  refine ofV 0 (by decide +kernel) rfl hE hnt (Nat.le_of_ble_eq_true rfl) rfl (fun M hN K => ?_)
  refine v_aload0 (pc := 0) K dX4_rows_0 ?_
  refine v_ic0 (pc := 1) K dX4_rows_1 ?_
  refine v_put (pc := 2) K fw_RX4_69 dX4_rows_2 rfl rfl (Nat.le_of_ble_eq_true rfl) rfl rfl ?_
  refine v_iload1 (pc := 5) K dX4_rows_5 ?_
  refine v_i2l (pc := 6) K dX4_rows_6 ?_
  refine v_lc1 (pc := 7) K dX4_rows_7 ?_
  refine v_ldc2 (pc := 8) K dX4_rows_8 cl_RX4_111 ?_
  obtain ⟨v1, h2, h⟩ := bd h
  refine v_cS3I (pc := 11)  K ca_yX4_isIn ml_RX4_76 (t_X4_isIn _ K.nt K.ad (sI σ 0 0 (0 : Int32)) ((a0).toInt64) (1 : Int64) (64 : Int64) v1 h2) (Nat.le_of_ble_eq_true rfl) (by decide) (by decide) dX4_rows_11 ?_
  refine v_if_ne (pc := 14) (tgt := 23) K dX4_rows_14 (by decide) (fun c3 => ?_) (fun c3 => ?_)
  · have h := ie c3 h
    refine v_aload0 (pc := 23) K dX4_rows_23 ?_
    refine v_getI (pc := 24) K fl_RX4_80 dX4_rows_24 (Nat.le_of_ble_eq_true rfl) rfl rfl ?_
    refine v_iload1 (pc := 27) K dX4_rows_27 ?_
    refine v_iadd (pc := 28) K dX4_rows_28 ?_
    refine v_sipush (pc := 29) (v := 192) K dX4_rows_29 (by decide) ?_
    refine v_icmp_le (pc := 32) (tgt := 41) K dX4_rows_32 (by decide) (fun c4 => ?_) (fun c4 => ?_)
    · have h := it c4 h
      refine v_aload0 (pc := 41) K dX4_rows_41 ?_
      refine v_dupR (pc := 42) K dX4_rows_42 ?_
      refine v_getI (pc := 43) K fl_RX4_80 dX4_rows_43 (Nat.le_of_ble_eq_true rfl) rfl rfl ?_
      refine v_iload1 (pc := 46) K dX4_rows_46 ?_
      refine v_iadd (pc := 47) K dX4_rows_47 ?_
      refine v_put (pc := 48) K fw_RX4_80 dX4_rows_48 rfl rfl (Nat.le_of_ble_eq_true rfl) rfl rfl ?_
      refine v_aload0 (pc := 51) K dX4_rows_51 ?_
      refine v_getI (pc := 52) K fl_RX4_80 dX4_rows_52 (Nat.le_of_ble_eq_true rfl) rfl rfl ?_
      cases h
      exact v_iret (pc := 55) K dX4_rows_55 rfl rfl
    · have h := ie c4 h
      refine v_aload0 (pc := 35) K dX4_rows_35 ?_
      refine v_ic2 (pc := 36) K dX4_rows_36 ?_
      obtain ⟨v5, h6, h⟩ := bd h
      refine v_cV1I (pc := 37)  K ca_yX4_fails ml_RX4_105 (Nat.le_of_ble_eq_true rfl) rfl rfl (t_X4_fails _ K.nt K.ad (sI σ 0 0 (0 : Int32)) (2 : Int32) v5 h6) (Nat.le_of_ble_eq_true rfl) (by decide) (by decide) dX4_rows_37 ?_
      cases h
      exact v_iret (pc := 40) K dX4_rows_40 rfl rfl
  · have h := it c3 h
    refine v_aload0 (pc := 17) K dX4_rows_17 ?_
    refine v_ic1 (pc := 18) K dX4_rows_18 ?_
    obtain ⟨v7, h8, h⟩ := bd h
    refine v_cV1I (pc := 19)  K ca_yX4_fails ml_RX4_105 (Nat.le_of_ble_eq_true rfl) rfl rfl (t_X4_fails _ K.nt K.ad (sI σ 0 0 (0 : Int32)) (1 : Int32) v7 h8) (Nat.le_of_ble_eq_true rfl) (by decide) (by decide) dX4_rows_19 ?_
    cases h
    exact v_iret (pc := 22) K dX4_rows_22 rfl rfl
set_option maxRecDepth 100000 in
def m_X4_isRow (σ : St) (a0 : Int32) : Option (Int32) :=
  ((m_X4_isIn σ ((a0).toInt64) (0 : Int64) (((σ.1 0 5 - (1 : Int32))).toInt64)).bind fun v1 => some (nz v1))
set_option maxHeartbeats 4000000 in
set_option maxRecDepth 100000 in
theorem t_X4_isRow (l : Launch) (hnt : l.stackTraces = false) {E : Ev} {base : Nat} (hE : Adr YM E base) (σ : St) (a0 : Int32) (r : Int32) (h : m_X4_isRow σ a0 = some r) : Ctr l yX4_isRow cX4_isRow 2 (some .boolean) 1 25 YM E base [.ref (E.2.2 0), .int a0] σ (.ok (some (.int r))) σ := by
  unfold m_X4_isRow at h
  refine ofV 0 (by decide +kernel) rfl hE hnt (Nat.le_of_ble_eq_true rfl) rfl (fun M hN K => ?_)
  refine v_iload1 (pc := 0) K dX4_isRow_0 ?_
  refine v_i2l (pc := 1) K dX4_isRow_1 ?_
  refine v_lc0 (pc := 2) K dX4_isRow_2 ?_
  refine v_aload0 (pc := 3) K dX4_isRow_3 ?_
  refine v_getI (pc := 4) K fl_RX4_80 dX4_isRow_4 (Nat.le_of_ble_eq_true rfl) rfl rfl ?_
  refine v_ic1 (pc := 7) K dX4_isRow_7 ?_
  refine v_isub (pc := 8) K dX4_isRow_8 ?_
  refine v_i2l (pc := 9) K dX4_isRow_9 ?_
  obtain ⟨v1, h2, h⟩ := bd h
  refine v_cS3I (pc := 10)  K ca_yX4_isIn ml_RX4_76 (t_X4_isIn _ K.nt K.ad σ ((a0).toInt64) (0 : Int64) (((σ.1 0 5 - (1 : Int32))).toInt64) v1 h2) (Nat.le_of_ble_eq_true rfl) (by decide) (by decide) dX4_isRow_10 ?_
  cases h
  exact v_zret (pc := 13) K dX4_isRow_13 rfl rfl
set_option maxRecDepth 100000 in
def m_X4_most (σ : St) (a0 : Int32) : Option (Int64) :=
  ((ix a0 6).bind fun j1 => some (((1 : Int64) <<< (((σ.1 3 j1 - (1 : Int32))).toInt64 &&& 63)) - (1 : Int64)))
set_option maxHeartbeats 4000000 in
set_option maxRecDepth 100000 in
theorem t_X4_most (l : Launch) (hnt : l.stackTraces = false) {E : Ev} {base : Nat} (hE : Adr YM E base) (σ : St) (a0 : Int32) (r : Int64) (h : m_X4_most σ a0 = some r) : Ctr l yX4_most cX4_most 2 (some .long) 0 0 YM E base [.ref (E.2.2 0), .int a0] σ (.ok (some (.long r))) σ := by
  unfold m_X4_most at h
  refine ofV 0 (by decide +kernel) rfl hE hnt (Nat.le_of_ble_eq_true rfl) rfl (fun M hN K => ?_)
  refine v_lc1 (pc := 0) K dX4_most_0 ?_
  refine v_aload0 (pc := 1) K dX4_most_1 ?_
  refine v_getR (pc := 2) K fl_RX4_17 dX4_most_2 (Nat.le_of_ble_eq_true rfl) rfl rfl ?_
  refine v_iload1 (pc := 5) K dX4_most_5 ?_
  obtain ⟨j1, h2, h⟩ := bd h
  refine v_iaload (pc := 6) K dX4_most_6 (Nat.le_of_ble_eq_true rfl) rfl h2 ?_
  refine v_ic1 (pc := 7) K dX4_most_7 ?_
  refine v_isub (pc := 8) K dX4_most_8 ?_
  refine v_lshl (pc := 9) K dX4_most_9 ?_
  refine v_lc1 (pc := 10) K dX4_most_10 ?_
  refine v_lsub (pc := 11) K dX4_most_11 ?_
  cases h
  exact v_lret (pc := 12) K dX4_most_12 rfl rfl
set_option maxRecDepth 100000 in
def m_X4_fits (σ : St) (a0 : Int32) (a1 : Int64) : Option (Int32) :=
  ((m_X4_most σ a0).bind fun v1 => ((m_X4_most σ a0).bind fun v3 => ((m_X4_isIn σ a1 ((-v1) - (1 : Int64)) v3).bind fun v5 => some (nz v5))))
set_option maxHeartbeats 4000000 in
set_option maxRecDepth 100000 in
theorem t_X4_fits (l : Launch) (hnt : l.stackTraces = false) {E : Ev} {base : Nat} (hE : Adr YM E base) (σ : St) (a0 : Int32) (a1 : Int64) (r : Int32) (h : m_X4_fits σ a0 a1 = some r) : Ctr l yX4_fits cX4_fits 4 (some .boolean) 1 25 YM E base [.ref (E.2.2 0), .int a0, .long a1] σ (.ok (some (.int r))) σ := by
  unfold m_X4_fits at h
  refine ofV 0 (by decide +kernel) rfl hE hnt (Nat.le_of_ble_eq_true rfl) rfl (fun M hN K => ?_)
  refine v_lload2 (pc := 0) K dX4_fits_0 ?_
  refine v_aload0 (pc := 1) K dX4_fits_1 ?_
  refine v_iload1 (pc := 2) K dX4_fits_2 ?_
  obtain ⟨v1, h2, h⟩ := bd h
  refine v_cV1L (pc := 3)  K ca_yX4_most ml_RX4_98 (Nat.le_of_ble_eq_true rfl) rfl rfl (t_X4_most _ K.nt K.ad σ a0 v1 h2) (Nat.le_of_ble_eq_true rfl) (by decide) (by decide) dX4_fits_3 ?_
  refine v_lneg (pc := 6) K dX4_fits_6 ?_
  refine v_lc1 (pc := 7) K dX4_fits_7 ?_
  refine v_lsub (pc := 8) K dX4_fits_8 ?_
  refine v_aload0 (pc := 9) K dX4_fits_9 ?_
  refine v_iload1 (pc := 10) K dX4_fits_10 ?_
  obtain ⟨v3, h4, h⟩ := bd h
  refine v_cV1L (pc := 11)  K ca_yX4_most ml_RX4_98 (Nat.le_of_ble_eq_true rfl) rfl rfl (t_X4_most _ K.nt K.ad σ a0 v3 h4) (Nat.le_of_ble_eq_true rfl) (by decide) (by decide) dX4_fits_11 ?_
  obtain ⟨v5, h6, h⟩ := bd h
  refine v_cS3I (pc := 14)  K ca_yX4_isIn ml_RX4_76 (t_X4_isIn _ K.nt K.ad σ a1 ((-v1) - (1 : Int64)) v3 v5 h6) (Nat.le_of_ble_eq_true rfl) (by decide) (by decide) dX4_fits_14 ?_
  cases h
  exact v_zret (pc := 17) K dX4_fits_17 rfl rfl
set_option maxRecDepth 100000 in
def m_X4_tooGreat (σ : St) (a0 : Int32) : Option (Int32 × St) :=
  ((m_X4_fails (sI σ 0 7 (σ.1 0 7 + (1 : Int32))) a0).bind fun v1 => some (v1.1, v1.2))
set_option maxHeartbeats 4000000 in
set_option maxRecDepth 100000 in
theorem t_X4_tooGreat (l : Launch) (hnt : l.stackTraces = false) {E : Ev} {base : Nat} (hE : Adr YM E base) (σ : St) (a0 : Int32) (r : Int32 × St) (h : m_X4_tooGreat σ a0 = some r) : Ctr l yX4_tooGreat cX4_tooGreat 2 (some .int) 1 21 YM E base [.ref (E.2.2 0), .int a0] σ (.ok (some (.int r.1))) r.2 := by
  unfold m_X4_tooGreat at h
  refine ofV 0 (by decide +kernel) rfl hE hnt (Nat.le_of_ble_eq_true rfl) rfl (fun M hN K => ?_)
  refine v_aload0 (pc := 0) K dX4_tooGreat_0 ?_
  refine v_dupR (pc := 1) K dX4_tooGreat_1 ?_
  refine v_getI (pc := 2) K fl_RX4_102 dX4_tooGreat_2 (Nat.le_of_ble_eq_true rfl) rfl rfl ?_
  refine v_ic1 (pc := 5) K dX4_tooGreat_5 ?_
  refine v_iadd (pc := 6) K dX4_tooGreat_6 ?_
  refine v_put (pc := 7) K fw_RX4_102 dX4_tooGreat_7 rfl rfl (Nat.le_of_ble_eq_true rfl) rfl rfl ?_
  refine v_aload0 (pc := 10) K dX4_tooGreat_10 ?_
  refine v_iload1 (pc := 11) K dX4_tooGreat_11 ?_
  obtain ⟨v1, h2, h⟩ := bd h
  refine v_cV1I (pc := 12)  K ca_yX4_fails ml_RX4_105 (Nat.le_of_ble_eq_true rfl) rfl rfl (t_X4_fails _ K.nt K.ad (sI σ 0 7 (σ.1 0 7 + (1 : Int32))) a0 v1 h2) (Nat.le_of_ble_eq_true rfl) (by decide) (by decide) dX4_tooGreat_12 ?_
  cases h
  exact v_iret (pc := 15) K dX4_tooGreat_15 rfl rfl
set_option maxRecDepth 100000 in
def m_X4_flag (σ : St) (a0 : Int32) : Option (Int32) :=
  ((if a0 = 0 then some (0 : Int32) else some (1 : Int32)).bind fun (t1 : Int32) => some t1)
set_option maxHeartbeats 4000000 in
set_option maxRecDepth 100000 in
theorem t_X4_flag (l : Launch) (hnt : l.stackTraces = false) {E : Ev} {base : Nat} (hE : Adr YM E base) (σ : St) (a0 : Int32) (r : Int32) (h : m_X4_flag σ a0 = some r) : Ctr l yX4_flag cX4_flag 1 (some .int) 0 0 YM E base [.int a0] σ (.ok (some (.int r))) σ := by
  unfold m_X4_flag at h
  refine ofV 0 (by decide +kernel) rfl hE hnt (Nat.le_of_ble_eq_true rfl) rfl (fun M hN K => ?_)
  refine v_iload0 (pc := 0) K dX4_flag_0 ?_
  obtain ⟨t1, h3, h⟩ := bd h
  have hJ2 : V (mkX M YM E base 1 (.ok (some (.int r))) σ) σ 9 [none] [.int t1] := by
    cases h
    exact v_iret (pc := 9) K dX4_flag_9 rfl rfl
  clear h
  have h := h3
  refine v_if_eq (pc := 1) (tgt := 8) K dX4_flag_1 (by decide) (fun c4 => ?_) (fun c4 => ?_)
  · have h := it c4 h
    refine v_ic0 (pc := 8) K dX4_flag_8 ?_
    cases h
    exact (v_fg [false] hJ2)
  · have h := ie c4 h
    refine v_ic1 (pc := 4) K dX4_flag_4 ?_
    refine v_goto (pc := 5) (tgt := 9) K dX4_flag_5 (by decide) ?_
    cases h
    exact (v_fg [false] hJ2)
set_option maxRecDepth 100000 in
def m_X4_set (σ : St) (a0 : Int32) (a1 : Int32) (a2 : Int64) : Option (Int32 × St) :=
  ((m_X4_isColumn (sI σ 0 0 (0 : Int32)) a0).bind fun v1 => (if v1 = 0 then ((m_X4_fails (sI σ 0 0 (0 : Int32)) (1 : Int32)).bind fun v4 => some (v4.1, v4.2)) else ((m_X4_isRow (sI σ 0 0 (0 : Int32)) a1).bind fun v6 => (if v6 = 0 then ((m_X4_fails (sI σ 0 0 (0 : Int32)) (1 : Int32)).bind fun v28 => some (v28.1, v28.2)) else ((m_X4_fits (sI σ 0 0 (0 : Int32)) a0 a2).bind fun v9 => (if v9 = 0 then ((m_X4_tooGreat (sI σ 0 0 (0 : Int32)) (2 : Int32)).bind fun v26 => some (v26.1, v26.2)) else ((m_X4_at (sI σ 0 0 (0 : Int32)) a0 a1).bind fun v12 => ((ix v12 1152).bind fun j14 => ((if (sI σ 0 0 (0 : Int32)).1 2 j14 = 0 then some (1 : Int32) else some (0 : Int32)).bind fun (t16 : Int32) => ((m_X4_flag (sI σ 0 0 (0 : Int32)) t16).bind fun v20 => ((ix v12 1152).bind fun j22 => ((ix v12 1152).bind fun j24 => some (v20, (sL (sI (sI σ 0 0 (0 : Int32)) 2 j22 (nz (1 : Int32))) 1 j24 a2))))))))))))))
set_option maxHeartbeats 4000000 in
set_option maxRecDepth 100000 in
theorem t_X4_set (l : Launch) (hnt : l.stackTraces = false) {E : Ev} {base : Nat} (hE : Adr YM E base) (σ : St) (a0 : Int32) (a1 : Int32) (a2 : Int64) (r : Int32 × St) (h : m_X4_set σ a0 a1 a2 = some r) : Ctr l yX4_set cX4_set 7 (some .int) 2 48 YM E base [.ref (E.2.2 0), .int a0, .int a1, .long a2] σ (.ok (some (.int r.1))) r.2 := by
  unfold m_X4_set at h
  refine ofV 2 (by decide +kernel) rfl hE hnt (Nat.le_of_ble_eq_true rfl) rfl (fun M hN K => ?_)
  refine v_aload0 (pc := 0) K dX4_set_0 ?_
  refine v_ic0 (pc := 1) K dX4_set_1 ?_
  refine v_put (pc := 2) K fw_RX4_69 dX4_set_2 rfl rfl (Nat.le_of_ble_eq_true rfl) rfl rfl ?_
  refine v_aload0 (pc := 5) K dX4_set_5 ?_
  refine v_iload1 (pc := 6) K dX4_set_6 ?_
  obtain ⟨v1, h2, h⟩ := bd h
  refine v_cV1I (pc := 7)  K ca_yX4_isColumn ml_RX4_87 (Nat.le_of_ble_eq_true rfl) rfl rfl (t_X4_isColumn _ K.nt K.ad (sI σ 0 0 (0 : Int32)) a0 v1 h2) (Nat.le_of_ble_eq_true rfl) (by decide) (by decide) dX4_set_7 ?_
  refine v_if_eq (pc := 10) (tgt := 21) K dX4_set_10 (by decide) (fun c3 => ?_) (fun c3 => ?_)
  · have h := it c3 h
    refine v_aload0 (pc := 21) K dX4_set_21 ?_
    refine v_ic1 (pc := 22) K dX4_set_22 ?_
    obtain ⟨v4, h5, h⟩ := bd h
    refine v_cV1I (pc := 23)  K ca_yX4_fails ml_RX4_105 (Nat.le_of_ble_eq_true rfl) rfl rfl (t_X4_fails _ K.nt K.ad (sI σ 0 0 (0 : Int32)) (1 : Int32) v4 h5) (Nat.le_of_ble_eq_true rfl) (by decide) (by decide) dX4_set_23 ?_
    cases h
    exact v_iret (pc := 26) K dX4_set_26 rfl rfl
  · have h := ie c3 h
    refine v_aload0 (pc := 13) K dX4_set_13 ?_
    refine v_iload2 (pc := 14) K dX4_set_14 ?_
    obtain ⟨v6, h7, h⟩ := bd h
    refine v_cV1I (pc := 15)  K ca_yX4_isRow ml_RX4_113 (Nat.le_of_ble_eq_true rfl) rfl rfl (t_X4_isRow _ K.nt K.ad (sI σ 0 0 (0 : Int32)) a1 v6 h7) (Nat.le_of_ble_eq_true rfl) (by decide) (by decide) dX4_set_15 ?_
    refine v_if_ne (pc := 18) (tgt := 27) K dX4_set_18 (by decide) (fun c8 => ?_) (fun c8 => ?_)
    · have h := ie c8 h
      refine v_aload0 (pc := 27) K dX4_set_27 ?_
      refine v_iload1 (pc := 28) K dX4_set_28 ?_
      refine v_lload3 (pc := 29) K dX4_set_29 ?_
      obtain ⟨v9, h10, h⟩ := bd h
      refine v_cV2I (pc := 30)  K ca_yX4_fits ml_RX4_116 (Nat.le_of_ble_eq_true rfl) rfl rfl (t_X4_fits _ K.nt K.ad (sI σ 0 0 (0 : Int32)) a0 a2 v9 h10) (Nat.le_of_ble_eq_true rfl) (by decide) (by decide) dX4_set_30 ?_
      refine v_if_ne (pc := 33) (tgt := 42) K dX4_set_33 (by decide) (fun c11 => ?_) (fun c11 => ?_)
      · have h := ie c11 h
        refine v_iload1 (pc := 42) K dX4_set_42 ?_
        refine v_iload2 (pc := 43) K dX4_set_43 ?_
        obtain ⟨v12, h13, h⟩ := bd h
        refine v_cS2I (pc := 44)  K ca_yX4_at ml_RX4_94 (t_X4_at _ K.nt K.ad (sI σ 0 0 (0 : Int32)) a0 a1 v12 h13) (Nat.le_of_ble_eq_true rfl) (by decide) (by decide) dX4_set_44 ?_
        refine v_istore5 (pc := 47) K dX4_set_47 rfl (Nat.le_of_ble_eq_true rfl) ?_
        refine v_aload0 (pc := 49) K dX4_set_49 ?_
        refine v_getR (pc := 50) K fl_RX4_13 dX4_set_50 (Nat.le_of_ble_eq_true rfl) rfl rfl ?_
        refine v_iload5 (pc := 53) K dX4_set_53 ?_
        obtain ⟨j14, h15, h⟩ := bd h
        refine v_zaload (pc := 55) K dX4_set_55 (Nat.le_of_ble_eq_true rfl) rfl h15 ?_
        obtain ⟨t16, h18, h⟩ := bd h
        have hJ17 : V (mkX M YM E base 7 (.ok (some (.int r.1))) r.2) (sI σ 0 0 (0 : Int32)) 64 [some (.ref (E.2.2 0)), none, none, some (.long a2), none, some (.int v12), none] [.int t16] := by
          obtain ⟨v20, h21, h⟩ := bd h
          refine v_cS1I (pc := 64)  K ca_yX4_flag ml_RX4_123 (t_X4_flag _ K.nt K.ad (sI σ 0 0 (0 : Int32)) t16 v20 h21) (Nat.le_of_ble_eq_true rfl) (by decide) (by decide) dX4_set_64 ?_
          refine v_istore6 (pc := 67) K dX4_set_67 rfl (Nat.le_of_ble_eq_true rfl) ?_
          refine v_aload0 (pc := 69) K dX4_set_69 ?_
          refine v_getR (pc := 70) K fl_RX4_13 dX4_set_70 (Nat.le_of_ble_eq_true rfl) rfl rfl ?_
          refine v_iload5 (pc := 73) K dX4_set_73 ?_
          refine v_ic1 (pc := 75) K dX4_set_75 ?_
          obtain ⟨j22, h23, h⟩ := bd h
          refine v_zastore (pc := 76) K dX4_set_76 (Nat.le_of_ble_eq_true rfl) rfl h23 ?_
          refine v_aload0 (pc := 77) K dX4_set_77 ?_
          refine v_getR (pc := 78) K fl_RX4_7 dX4_set_78 (Nat.le_of_ble_eq_true rfl) rfl rfl ?_
          refine v_iload5 (pc := 81) K dX4_set_81 ?_
          refine v_lload3 (pc := 83) K dX4_set_83 ?_
          obtain ⟨j24, h25, h⟩ := bd h
          refine v_lastore (pc := 84) K dX4_set_84 (Nat.le_of_ble_eq_true rfl) rfl h25 ?_
          refine v_iload6 (pc := 85) K dX4_set_85 ?_
          cases h
          exact v_iret (pc := 87) K dX4_set_87 rfl rfl
        clear h
        have h := h18
        refine v_if_ne (pc := 56) (tgt := 63) K dX4_set_56 (by decide) (fun c19 => ?_) (fun c19 => ?_)
        · have h := ie c19 h
          refine v_ic0 (pc := 63) K dX4_set_63 ?_
          cases h
          exact (v_fg [true, false, false, true, true, true, true] hJ17)
        · have h := it c19 h
          refine v_ic1 (pc := 59) K dX4_set_59 ?_
          refine v_goto (pc := 60) (tgt := 64) K dX4_set_60 (by decide) ?_
          cases h
          exact (v_fg [true, false, false, true, true, true, true] hJ17)
      · have h := it c11 h
        refine v_aload0 (pc := 36) K dX4_set_36 ?_
        refine v_ic2 (pc := 37) K dX4_set_37 ?_
        obtain ⟨v26, h27, h⟩ := bd h
        refine v_cV1I (pc := 38)  K ca_yX4_tooGreat ml_RX4_120 (Nat.le_of_ble_eq_true rfl) rfl rfl (t_X4_tooGreat _ K.nt K.ad (sI σ 0 0 (0 : Int32)) (2 : Int32) v26 h27) (Nat.le_of_ble_eq_true rfl) (by decide) (by decide) dX4_set_38 ?_
        cases h
        exact v_iret (pc := 41) K dX4_set_41 rfl rfl
    · have h := it c8 h
      refine v_aload0 (pc := 21) K dX4_set_21 ?_
      refine v_ic1 (pc := 22) K dX4_set_22 ?_
      obtain ⟨v28, h29, h⟩ := bd h
      refine v_cV1I (pc := 23)  K ca_yX4_fails ml_RX4_105 (Nat.le_of_ble_eq_true rfl) rfl rfl (t_X4_fails _ K.nt K.ad (sI σ 0 0 (0 : Int32)) (1 : Int32) v28 h29) (Nat.le_of_ble_eq_true rfl) (by decide) (by decide) dX4_set_23 ?_
      cases h
      exact v_iret (pc := 26) K dX4_set_26 rfl rfl
set_option maxRecDepth 100000 in
def m_X4_clear (σ : St) (a0 : Int32) (a1 : Int32) : Option (Int32 × St) :=
  ((m_X4_isColumn (sI σ 0 0 (0 : Int32)) a0).bind fun v1 => (if v1 = 0 then ((m_X4_fails (sI σ 0 0 (0 : Int32)) (1 : Int32)).bind fun v4 => some (v4.1, v4.2)) else ((m_X4_isRow (sI σ 0 0 (0 : Int32)) a1).bind fun v6 => (if v6 = 0 then ((m_X4_fails (sI σ 0 0 (0 : Int32)) (1 : Int32)).bind fun v19 => some (v19.1, v19.2)) else ((m_X4_at (sI σ 0 0 (0 : Int32)) a0 a1).bind fun v9 => ((ix v9 1152).bind fun j11 => ((m_X4_flag (sI σ 0 0 (0 : Int32)) ((sI σ 0 0 (0 : Int32)).1 2 j11)).bind fun v13 => ((m_X4_at (sI σ 0 0 (0 : Int32)) a0 a1).bind fun v15 => ((ix v15 1152).bind fun j17 => some (v13, (sI (sI σ 0 0 (0 : Int32)) 2 j17 (nz (0 : Int32)))))))))))))
set_option maxHeartbeats 4000000 in
set_option maxRecDepth 100000 in
theorem t_X4_clear (l : Launch) (hnt : l.stackTraces = false) {E : Ev} {base : Nat} (hE : Adr YM E base) (σ : St) (a0 : Int32) (a1 : Int32) (r : Int32 × St) (h : m_X4_clear σ a0 a1 = some r) : Ctr l yX4_clear cX4_clear 4 (some .int) 2 46 YM E base [.ref (E.2.2 0), .int a0, .int a1] σ (.ok (some (.int r.1))) r.2 := by
  unfold m_X4_clear at h
  refine ofV 1 (by decide +kernel) rfl hE hnt (Nat.le_of_ble_eq_true rfl) rfl (fun M hN K => ?_)
  refine v_aload0 (pc := 0) K dX4_clear_0 ?_
  refine v_ic0 (pc := 1) K dX4_clear_1 ?_
  refine v_put (pc := 2) K fw_RX4_69 dX4_clear_2 rfl rfl (Nat.le_of_ble_eq_true rfl) rfl rfl ?_
  refine v_aload0 (pc := 5) K dX4_clear_5 ?_
  refine v_iload1 (pc := 6) K dX4_clear_6 ?_
  obtain ⟨v1, h2, h⟩ := bd h
  refine v_cV1I (pc := 7)  K ca_yX4_isColumn ml_RX4_87 (Nat.le_of_ble_eq_true rfl) rfl rfl (t_X4_isColumn _ K.nt K.ad (sI σ 0 0 (0 : Int32)) a0 v1 h2) (Nat.le_of_ble_eq_true rfl) (by decide) (by decide) dX4_clear_7 ?_
  refine v_if_eq (pc := 10) (tgt := 21) K dX4_clear_10 (by decide) (fun c3 => ?_) (fun c3 => ?_)
  · have h := it c3 h
    refine v_aload0 (pc := 21) K dX4_clear_21 ?_
    refine v_ic1 (pc := 22) K dX4_clear_22 ?_
    obtain ⟨v4, h5, h⟩ := bd h
    refine v_cV1I (pc := 23)  K ca_yX4_fails ml_RX4_105 (Nat.le_of_ble_eq_true rfl) rfl rfl (t_X4_fails _ K.nt K.ad (sI σ 0 0 (0 : Int32)) (1 : Int32) v4 h5) (Nat.le_of_ble_eq_true rfl) (by decide) (by decide) dX4_clear_23 ?_
    cases h
    exact v_iret (pc := 26) K dX4_clear_26 rfl rfl
  · have h := ie c3 h
    refine v_aload0 (pc := 13) K dX4_clear_13 ?_
    refine v_iload2 (pc := 14) K dX4_clear_14 ?_
    obtain ⟨v6, h7, h⟩ := bd h
    refine v_cV1I (pc := 15)  K ca_yX4_isRow ml_RX4_113 (Nat.le_of_ble_eq_true rfl) rfl rfl (t_X4_isRow _ K.nt K.ad (sI σ 0 0 (0 : Int32)) a1 v6 h7) (Nat.le_of_ble_eq_true rfl) (by decide) (by decide) dX4_clear_15 ?_
    refine v_if_ne (pc := 18) (tgt := 27) K dX4_clear_18 (by decide) (fun c8 => ?_) (fun c8 => ?_)
    · have h := ie c8 h
      refine v_aload0 (pc := 27) K dX4_clear_27 ?_
      refine v_getR (pc := 28) K fl_RX4_13 dX4_clear_28 (Nat.le_of_ble_eq_true rfl) rfl rfl ?_
      refine v_iload1 (pc := 31) K dX4_clear_31 ?_
      refine v_iload2 (pc := 32) K dX4_clear_32 ?_
      obtain ⟨v9, h10, h⟩ := bd h
      refine v_cS2I (pc := 33)  K ca_yX4_at ml_RX4_94 (t_X4_at _ K.nt K.ad (sI σ 0 0 (0 : Int32)) a0 a1 v9 h10) (Nat.le_of_ble_eq_true rfl) (by decide) (by decide) dX4_clear_33 ?_
      obtain ⟨j11, h12, h⟩ := bd h
      refine v_zaload (pc := 36) K dX4_clear_36 (Nat.le_of_ble_eq_true rfl) rfl h12 ?_
      obtain ⟨v13, h14, h⟩ := bd h
      refine v_cS1I (pc := 37)  K ca_yX4_flag ml_RX4_123 (t_X4_flag _ K.nt K.ad (sI σ 0 0 (0 : Int32)) ((sI σ 0 0 (0 : Int32)).1 2 j11) v13 h14) (Nat.le_of_ble_eq_true rfl) (by decide) (by decide) dX4_clear_37 ?_
      refine v_istore3 (pc := 40) K dX4_clear_40 rfl (Nat.le_of_ble_eq_true rfl) ?_
      refine v_aload0 (pc := 41) K dX4_clear_41 ?_
      refine v_getR (pc := 42) K fl_RX4_13 dX4_clear_42 (Nat.le_of_ble_eq_true rfl) rfl rfl ?_
      refine v_iload1 (pc := 45) K dX4_clear_45 ?_
      refine v_iload2 (pc := 46) K dX4_clear_46 ?_
      obtain ⟨v15, h16, h⟩ := bd h
      refine v_cS2I (pc := 47)  K ca_yX4_at ml_RX4_94 (t_X4_at _ K.nt K.ad (sI σ 0 0 (0 : Int32)) a0 a1 v15 h16) (Nat.le_of_ble_eq_true rfl) (by decide) (by decide) dX4_clear_47 ?_
      refine v_ic0 (pc := 50) K dX4_clear_50 ?_
      obtain ⟨j17, h18, h⟩ := bd h
      refine v_zastore (pc := 51) K dX4_clear_51 (Nat.le_of_ble_eq_true rfl) rfl h18 ?_
      refine v_iload3 (pc := 52) K dX4_clear_52 ?_
      cases h
      exact v_iret (pc := 53) K dX4_clear_53 rfl rfl
    · have h := it c8 h
      refine v_aload0 (pc := 21) K dX4_clear_21 ?_
      refine v_ic1 (pc := 22) K dX4_clear_22 ?_
      obtain ⟨v19, h20, h⟩ := bd h
      refine v_cV1I (pc := 23)  K ca_yX4_fails ml_RX4_105 (Nat.le_of_ble_eq_true rfl) rfl rfl (t_X4_fails _ K.nt K.ad (sI σ 0 0 (0 : Int32)) (1 : Int32) v19 h20) (Nat.le_of_ble_eq_true rfl) (by decide) (by decide) dX4_clear_23 ?_
      cases h
      exact v_iret (pc := 26) K dX4_clear_26 rfl rfl
set_option maxRecDepth 100000 in
def m_X4_get (σ : St) (a0 : Int32) (a1 : Int32) : Option (Int64 × St) :=
  ((m_X4_isColumn (sI σ 0 0 (0 : Int32)) a0).bind fun v1 => (if v1 = 0 then ((m_X4_fails (sI σ 0 0 (0 : Int32)) (1 : Int32)).bind fun v4 => some ((v4.1).toInt64, v4.2)) else ((m_X4_isRow (sI σ 0 0 (0 : Int32)) a1).bind fun v6 => (if v6 = 0 then ((m_X4_fails (sI σ 0 0 (0 : Int32)) (1 : Int32)).bind fun v21 => some ((v21.1).toInt64, v21.2)) else ((m_X4_at (sI σ 0 0 (0 : Int32)) a0 a1).bind fun v9 => ((ix v9 1152).bind fun j11 => ((if (sI σ 0 0 (0 : Int32)).1 2 j11 = 0 then some ((-9223372036854775808) : Int64) else ((m_X4_at (sI σ 0 0 (0 : Int32)) a0 a1).bind fun v17 => ((ix v17 1152).bind fun j19 => some ((sI σ 0 0 (0 : Int32)).2 1 j19)))).bind fun (t13 : Int64) => some (t13, (sI σ 0 0 (0 : Int32))))))))))
set_option maxHeartbeats 4000000 in
set_option maxRecDepth 100000 in
theorem t_X4_get (l : Launch) (hnt : l.stackTraces = false) {E : Ev} {base : Nat} (hE : Adr YM E base) (σ : St) (a0 : Int32) (a1 : Int32) (r : Int64 × St) (h : m_X4_get σ a0 a1 = some r) : Ctr l yX4_get cX4_get 3 (some .long) 2 46 YM E base [.ref (E.2.2 0), .int a0, .int a1] σ (.ok (some (.long r.1))) r.2 := by
  unfold m_X4_get at h
  refine ofV 0 (by decide +kernel) rfl hE hnt (Nat.le_of_ble_eq_true rfl) rfl (fun M hN K => ?_)
  refine v_aload0 (pc := 0) K dX4_get_0 ?_
  refine v_ic0 (pc := 1) K dX4_get_1 ?_
  refine v_put (pc := 2) K fw_RX4_69 dX4_get_2 rfl rfl (Nat.le_of_ble_eq_true rfl) rfl rfl ?_
  refine v_aload0 (pc := 5) K dX4_get_5 ?_
  refine v_iload1 (pc := 6) K dX4_get_6 ?_
  obtain ⟨v1, h2, h⟩ := bd h
  refine v_cV1I (pc := 7)  K ca_yX4_isColumn ml_RX4_87 (Nat.le_of_ble_eq_true rfl) rfl rfl (t_X4_isColumn _ K.nt K.ad (sI σ 0 0 (0 : Int32)) a0 v1 h2) (Nat.le_of_ble_eq_true rfl) (by decide) (by decide) dX4_get_7 ?_
  refine v_if_eq (pc := 10) (tgt := 21) K dX4_get_10 (by decide) (fun c3 => ?_) (fun c3 => ?_)
  · have h := it c3 h
    refine v_aload0 (pc := 21) K dX4_get_21 ?_
    refine v_ic1 (pc := 22) K dX4_get_22 ?_
    obtain ⟨v4, h5, h⟩ := bd h
    refine v_cV1I (pc := 23)  K ca_yX4_fails ml_RX4_105 (Nat.le_of_ble_eq_true rfl) rfl rfl (t_X4_fails _ K.nt K.ad (sI σ 0 0 (0 : Int32)) (1 : Int32) v4 h5) (Nat.le_of_ble_eq_true rfl) (by decide) (by decide) dX4_get_23 ?_
    refine v_i2l (pc := 26) K dX4_get_26 ?_
    cases h
    exact v_lret (pc := 27) K dX4_get_27 rfl rfl
  · have h := ie c3 h
    refine v_aload0 (pc := 13) K dX4_get_13 ?_
    refine v_iload2 (pc := 14) K dX4_get_14 ?_
    obtain ⟨v6, h7, h⟩ := bd h
    refine v_cV1I (pc := 15)  K ca_yX4_isRow ml_RX4_113 (Nat.le_of_ble_eq_true rfl) rfl rfl (t_X4_isRow _ K.nt K.ad (sI σ 0 0 (0 : Int32)) a1 v6 h7) (Nat.le_of_ble_eq_true rfl) (by decide) (by decide) dX4_get_15 ?_
    refine v_if_ne (pc := 18) (tgt := 28) K dX4_get_18 (by decide) (fun c8 => ?_) (fun c8 => ?_)
    · have h := ie c8 h
      refine v_aload0 (pc := 28) K dX4_get_28 ?_
      refine v_getR (pc := 29) K fl_RX4_13 dX4_get_29 (Nat.le_of_ble_eq_true rfl) rfl rfl ?_
      refine v_iload1 (pc := 32) K dX4_get_32 ?_
      refine v_iload2 (pc := 33) K dX4_get_33 ?_
      obtain ⟨v9, h10, h⟩ := bd h
      refine v_cS2I (pc := 34)  K ca_yX4_at ml_RX4_94 (t_X4_at _ K.nt K.ad (sI σ 0 0 (0 : Int32)) a0 a1 v9 h10) (Nat.le_of_ble_eq_true rfl) (by decide) (by decide) dX4_get_34 ?_
      obtain ⟨j11, h12, h⟩ := bd h
      refine v_zaload (pc := 37) K dX4_get_37 (Nat.le_of_ble_eq_true rfl) rfl h12 ?_
      obtain ⟨t13, h15, h⟩ := bd h
      have hJ14 : V (mkX M YM E base 3 (.ok (some (.long r.1))) r.2) (sI σ 0 0 (0 : Int32)) 57 [none, none, none] [.long t13] := by
        cases h
        exact v_lret (pc := 57) K dX4_get_57 rfl rfl
      clear h
      have h := h15
      refine v_if_eq (pc := 38) (tgt := 54) K dX4_get_38 (by decide) (fun c16 => ?_) (fun c16 => ?_)
      · have h := it c16 h
        refine v_ldc2 (pc := 54) K dX4_get_54 cl_RX4_127 ?_
        cases h
        exact (v_fg [false, false, false] hJ14)
      · have h := ie c16 h
        refine v_aload0 (pc := 41) K dX4_get_41 ?_
        refine v_getR (pc := 42) K fl_RX4_7 dX4_get_42 (Nat.le_of_ble_eq_true rfl) rfl rfl ?_
        refine v_iload1 (pc := 45) K dX4_get_45 ?_
        refine v_iload2 (pc := 46) K dX4_get_46 ?_
        obtain ⟨v17, h18, h⟩ := bd h
        refine v_cS2I (pc := 47)  K ca_yX4_at ml_RX4_94 (t_X4_at _ K.nt K.ad (sI σ 0 0 (0 : Int32)) a0 a1 v17 h18) (Nat.le_of_ble_eq_true rfl) (by decide) (by decide) dX4_get_47 ?_
        obtain ⟨j19, h20, h⟩ := bd h
        refine v_laload (pc := 50) K dX4_get_50 (Nat.le_of_ble_eq_true rfl) rfl h20 ?_
        refine v_goto (pc := 51) (tgt := 57) K dX4_get_51 (by decide) ?_
        cases h
        exact (v_fg [false, false, false] hJ14)
    · have h := it c8 h
      refine v_aload0 (pc := 21) K dX4_get_21 ?_
      refine v_ic1 (pc := 22) K dX4_get_22 ?_
      obtain ⟨v21, h22, h⟩ := bd h
      refine v_cV1I (pc := 23)  K ca_yX4_fails ml_RX4_105 (Nat.le_of_ble_eq_true rfl) rfl rfl (t_X4_fails _ K.nt K.ad (sI σ 0 0 (0 : Int32)) (1 : Int32) v21 h22) (Nat.le_of_ble_eq_true rfl) (by decide) (by decide) dX4_get_23 ?_
      refine v_i2l (pc := 26) K dX4_get_26 ?_
      cases h
      exact v_lret (pc := 27) K dX4_get_27 rfl rfl
set_option maxRecDepth 100000 in
def m_X4_numbersOf (σ : St) (a0 : Int32) : Option (Int32) :=
  ((lp 5000 (fun (s1 : Int32 × Int32) => (if σ.1 0 5 ≤ s1.2 then some (.inr s1.1) else ((m_X4_at σ a0 s1.2).bind fun v9 => ((ix v9 1152).bind fun j11 => ((m_X4_flag σ (σ.1 2 j11)).bind fun v13 => some (.inl ((s1.1 + v13), (s1.2 + 1)))))))) ((0 : Int32), (0 : Int32))).bind fun (r2 : Int32) => some r2)
set_option maxHeartbeats 4000000 in
set_option maxRecDepth 100000 in
theorem t_X4_numbersOf (l : Launch) (hnt : l.stackTraces = false) {E : Ev} {base : Nat} (hE : Adr YM E base) (σ : St) (a0 : Int32) (r : Int32) (h : m_X4_numbersOf σ a0 = some r) : Ctr l yX4_numbersOf cX4_numbersOf 4 (some .int) 1 21 YM E base [.ref (E.2.2 0), .int a0] σ (.ok (some (.int r))) σ := by
  unfold m_X4_numbersOf at h
  refine ofV 2 (by decide +kernel) rfl hE hnt (Nat.le_of_ble_eq_true rfl) rfl (fun M hN K => ?_)
  refine v_ic0 (pc := 0) K dX4_numbersOf_0 ?_
  refine v_istore2 (pc := 1) K dX4_numbersOf_1 rfl (Nat.le_of_ble_eq_true rfl) ?_
  refine v_ic0 (pc := 2) K dX4_numbersOf_2 ?_
  refine v_istore3 (pc := 3) K dX4_numbersOf_3 rfl (Nat.le_of_ble_eq_true rfl) ?_
  obtain ⟨r2, h4, h⟩ := bd h
  have hJ3 : V (mkX M YM E base 4 (.ok (some (.int r))) σ) σ 34 [none, none, some (.int r2), none] [] := by
    refine v_iload2 (pc := 34) K dX4_numbersOf_34 ?_
    cases h
    exact v_iret (pc := 35) K dX4_numbersOf_35 rfl rfl
  clear h
  have hL15 := lpv h4 (fun s1 : Int32 × Int32 => V (mkX M YM E base 4 (.ok (some (.int r))) σ) σ 4 [some (.ref (E.2.2 0)), some (.int a0), some (.int s1.1), some (.int s1.2)] [])
  refine hL15 (fun s1 o h hk => ?_)
  refine v_iload3 (pc := 4) K dX4_numbersOf_4 ?_
  refine v_aload0 (pc := 5) K dX4_numbersOf_5 ?_
  refine v_getI (pc := 6) K fl_RX4_80 dX4_numbersOf_6 (Nat.le_of_ble_eq_true rfl) rfl rfl ?_
  refine v_icmp_ge (pc := 9) (tgt := 34) K dX4_numbersOf_9 (by decide) (fun c8 => ?_) (fun c8 => ?_)
  · have h := it c8 h
    have e := lx h hk
    cases e
    exact v_fg [false, false, true, false] hJ3
  · have h := ie c8 h
    refine v_iload2 (pc := 12) K dX4_numbersOf_12 ?_
    refine v_aload0 (pc := 13) K dX4_numbersOf_13 ?_
    refine v_getR (pc := 14) K fl_RX4_13 dX4_numbersOf_14 (Nat.le_of_ble_eq_true rfl) rfl rfl ?_
    refine v_iload1 (pc := 17) K dX4_numbersOf_17 ?_
    refine v_iload3 (pc := 18) K dX4_numbersOf_18 ?_
    obtain ⟨v9, h10, h⟩ := bd h
    refine v_cS2I (pc := 19)  K ca_yX4_at ml_RX4_94 (t_X4_at _ K.nt K.ad σ a0 s1.2 v9 h10) (Nat.le_of_ble_eq_true rfl) (by decide) (by decide) dX4_numbersOf_19 ?_
    obtain ⟨j11, h12, h⟩ := bd h
    refine v_zaload (pc := 22) K dX4_numbersOf_22 (Nat.le_of_ble_eq_true rfl) rfl h12 ?_
    obtain ⟨v13, h14, h⟩ := bd h
    refine v_cS1I (pc := 23)  K ca_yX4_flag ml_RX4_123 (t_X4_flag _ K.nt K.ad σ (σ.1 2 j11) v13 h14) (Nat.le_of_ble_eq_true rfl) (by decide) (by decide) dX4_numbersOf_23 ?_
    refine v_iadd (pc := 26) K dX4_numbersOf_26 ?_
    refine v_istore2 (pc := 27) K dX4_numbersOf_27 rfl (Nat.le_of_ble_eq_true rfl) ?_
    refine v_iinc3 (pc := 28) (w := 1) K dX4_numbersOf_28 rfl (Nat.le_of_ble_eq_true rfl) (by decide) ?_
    refine v_goto (pc := 31) (tgt := 4) K dX4_numbersOf_31 (by decide) ?_
    have e := lfc h hk
    exact e
set_option maxRecDepth 100000 in
def m_X4_numbers (σ : St) : Option (Int32) :=
  ((lp 5000 (fun (s1 : Int32 × Int32) => (if σ.1 0 6 ≤ s1.2 then some (.inr s1.1) else ((m_X4_numbersOf σ s1.2).bind fun v9 => some (.inl ((s1.1 + v9), (s1.2 + 1)))))) ((0 : Int32), (0 : Int32))).bind fun (r2 : Int32) => some r2)
set_option maxHeartbeats 4000000 in
set_option maxRecDepth 100000 in
theorem t_X4_numbers (l : Launch) (hnt : l.stackTraces = false) {E : Ev} {base : Nat} (hE : Adr YM E base) (σ : St) (r : Int32) (h : m_X4_numbers σ = some r) : Ctr l yX4_numbers cX4_numbers 3 (some .int) 2 44 YM E base [.ref (E.2.2 0)] σ (.ok (some (.int r))) σ := by
  unfold m_X4_numbers at h
  refine ofV 2 (by decide +kernel) rfl hE hnt (Nat.le_of_ble_eq_true rfl) rfl (fun M hN K => ?_)
  refine v_ic0 (pc := 0) K dX4_numbers_0 ?_
  refine v_istore1 (pc := 1) K dX4_numbers_1 rfl (Nat.le_of_ble_eq_true rfl) ?_
  refine v_ic0 (pc := 2) K dX4_numbers_2 ?_
  refine v_istore2 (pc := 3) K dX4_numbers_3 rfl (Nat.le_of_ble_eq_true rfl) ?_
  obtain ⟨r2, h4, h⟩ := bd h
  have hJ3 : V (mkX M YM E base 3 (.ok (some (.int r))) σ) σ 26 [none, some (.int r2), none] [] := by
    refine v_iload1 (pc := 26) K dX4_numbers_26 ?_
    cases h
    exact v_iret (pc := 27) K dX4_numbers_27 rfl rfl
  clear h
  have hL11 := lpv h4 (fun s1 : Int32 × Int32 => V (mkX M YM E base 3 (.ok (some (.int r))) σ) σ 4 [some (.ref (E.2.2 0)), some (.int s1.1), some (.int s1.2)] [])
  refine hL11 (fun s1 o h hk => ?_)
  refine v_iload2 (pc := 4) K dX4_numbers_4 ?_
  refine v_aload0 (pc := 5) K dX4_numbers_5 ?_
  refine v_getI (pc := 6) K fl_RX4_73 dX4_numbers_6 (Nat.le_of_ble_eq_true rfl) rfl rfl ?_
  refine v_icmp_ge (pc := 9) (tgt := 26) K dX4_numbers_9 (by decide) (fun c8 => ?_) (fun c8 => ?_)
  · have h := it c8 h
    have e := lx h hk
    cases e
    exact v_fg [false, true, false] hJ3
  · have h := ie c8 h
    refine v_iload1 (pc := 12) K dX4_numbers_12 ?_
    refine v_aload0 (pc := 13) K dX4_numbers_13 ?_
    refine v_iload2 (pc := 14) K dX4_numbers_14 ?_
    obtain ⟨v9, h10, h⟩ := bd h
    refine v_cV1I (pc := 15)  K ca_yX4_numbersOf ml_RX4_129 (Nat.le_of_ble_eq_true rfl) rfl rfl (t_X4_numbersOf _ K.nt K.ad σ s1.2 v9 h10) (Nat.le_of_ble_eq_true rfl) (by decide) (by decide) dX4_numbers_15 ?_
    refine v_iadd (pc := 18) K dX4_numbers_18 ?_
    refine v_istore1 (pc := 19) K dX4_numbers_19 rfl (Nat.le_of_ble_eq_true rfl) ?_
    refine v_iinc2 (pc := 20) (w := 1) K dX4_numbers_20 rfl (Nat.le_of_ble_eq_true rfl) (by decide) ?_
    refine v_goto (pc := 23) (tgt := 4) K dX4_numbers_23 (by decide) ?_
    have e := lfc h hk
    exact e
set_option maxRecDepth 100000 in
def m_X4_widths (σ : St) : Option (Int32) :=
  ((lp 5000 (fun (s1 : Int32 × Int32) => (if σ.1 0 6 ≤ s1.2 then some (.inr s1.1) else ((ix s1.2 6).bind fun j9 => some (.inl ((s1.1 + σ.1 3 j9), (s1.2 + 1)))))) ((0 : Int32), (0 : Int32))).bind fun (r2 : Int32) => some r2)
set_option maxHeartbeats 4000000 in
set_option maxRecDepth 100000 in
theorem t_X4_widths (l : Launch) (hnt : l.stackTraces = false) {E : Ev} {base : Nat} (hE : Adr YM E base) (σ : St) (r : Int32) (h : m_X4_widths σ = some r) : Ctr l yX4_widths cX4_widths 3 (some .int) 0 0 YM E base [.ref (E.2.2 0)] σ (.ok (some (.int r))) σ := by
  unfold m_X4_widths at h
  refine ofV 2 (by decide +kernel) rfl hE hnt (Nat.le_of_ble_eq_true rfl) rfl (fun M hN K => ?_)
  refine v_ic0 (pc := 0) K dX4_widths_0 ?_
  refine v_istore1 (pc := 1) K dX4_widths_1 rfl (Nat.le_of_ble_eq_true rfl) ?_
  refine v_ic0 (pc := 2) K dX4_widths_2 ?_
  refine v_istore2 (pc := 3) K dX4_widths_3 rfl (Nat.le_of_ble_eq_true rfl) ?_
  obtain ⟨r2, h4, h⟩ := bd h
  have hJ3 : V (mkX M YM E base 3 (.ok (some (.int r))) σ) σ 27 [none, some (.int r2), none] [] := by
    refine v_iload1 (pc := 27) K dX4_widths_27 ?_
    cases h
    exact v_iret (pc := 28) K dX4_widths_28 rfl rfl
  clear h
  have hL11 := lpv h4 (fun s1 : Int32 × Int32 => V (mkX M YM E base 3 (.ok (some (.int r))) σ) σ 4 [some (.ref (E.2.2 0)), some (.int s1.1), some (.int s1.2)] [])
  refine hL11 (fun s1 o h hk => ?_)
  refine v_iload2 (pc := 4) K dX4_widths_4 ?_
  refine v_aload0 (pc := 5) K dX4_widths_5 ?_
  refine v_getI (pc := 6) K fl_RX4_73 dX4_widths_6 (Nat.le_of_ble_eq_true rfl) rfl rfl ?_
  refine v_icmp_ge (pc := 9) (tgt := 27) K dX4_widths_9 (by decide) (fun c8 => ?_) (fun c8 => ?_)
  · have h := it c8 h
    have e := lx h hk
    cases e
    exact v_fg [false, true, false] hJ3
  · have h := ie c8 h
    refine v_iload1 (pc := 12) K dX4_widths_12 ?_
    refine v_aload0 (pc := 13) K dX4_widths_13 ?_
    refine v_getR (pc := 14) K fl_RX4_17 dX4_widths_14 (Nat.le_of_ble_eq_true rfl) rfl rfl ?_
    refine v_iload2 (pc := 17) K dX4_widths_17 ?_
    obtain ⟨j9, h10, h⟩ := bd h
    refine v_iaload (pc := 18) K dX4_widths_18 (Nat.le_of_ble_eq_true rfl) rfl h10 ?_
    refine v_iadd (pc := 19) K dX4_widths_19 ?_
    refine v_istore1 (pc := 20) K dX4_widths_20 rfl (Nat.le_of_ble_eq_true rfl) ?_
    refine v_iinc2 (pc := 21) (w := 1) K dX4_widths_21 rfl (Nat.le_of_ble_eq_true rfl) (by decide) ?_
    refine v_goto (pc := 24) (tgt := 4) K dX4_widths_24 (by decide) ?_
    have e := lfc h hk
    exact e
set_option maxRecDepth 100000 in
def m_X4_isBare (σ : St) (a0 : Int32) : Option (Int32) :=
  (eB (lp 5000 (fun (s1 : Int32) => (if σ.1 0 6 ≤ s1 then some (.inr (.inl ())) else ((m_X4_at σ s1 a0).bind fun v9 => ((ix v9 1152).bind fun j11 => (if σ.1 2 j11 = 0 then some (.inl (s1 + 1)) else some (.inr (.inr (nz (0 : Int32))))))))) (0 : Int32)) fun (r2 : Unit) => some (nz (1 : Int32)))
set_option maxHeartbeats 4000000 in
set_option maxRecDepth 100000 in
theorem t_X4_isBare (l : Launch) (hnt : l.stackTraces = false) {E : Ev} {base : Nat} (hE : Adr YM E base) (σ : St) (a0 : Int32) (r : Int32) (h : m_X4_isBare σ a0 = some r) : Ctr l yX4_isBare cX4_isBare 3 (some .boolean) 1 21 YM E base [.ref (E.2.2 0), .int a0] σ (.ok (some (.int r))) σ := by
  unfold m_X4_isBare at h
  refine ofV 1 (by decide +kernel) rfl hE hnt (Nat.le_of_ble_eq_true rfl) rfl (fun M hN K => ?_)
  refine v_ic0 (pc := 0) K dX4_isBare_0 ?_
  refine v_istore2 (pc := 1) K dX4_isBare_1 rfl (Nat.le_of_ble_eq_true rfl) ?_
  obtain ⟨w7, h4, hi5, hq6⟩ := eb h
  have hJ3 : ∀ r2 : Unit, w7 = .inl r2 → V (mkX M YM E base 3 (.ok (some (.int r))) σ) σ 31 [none, none, none] [] := by
    intro r2 ha
    have h := hi5 _ ha
    refine v_ic1 (pc := 31) K dX4_isBare_31 ?_
    cases h
    exact v_zret (pc := 32) K dX4_isBare_32 rfl rfl
  clear h
  have hL14 := lpv h4 (fun s1 : Int32 => V (mkX M YM E base 3 (.ok (some (.int r))) σ) σ 2 [some (.ref (E.2.2 0)), some (.int a0), some (.int s1)] [])
  refine hL14 (fun s1 o h hk => ?_)
  refine v_iload2 (pc := 2) K dX4_isBare_2 ?_
  refine v_aload0 (pc := 3) K dX4_isBare_3 ?_
  refine v_getI (pc := 4) K fl_RX4_73 dX4_isBare_4 (Nat.le_of_ble_eq_true rfl) rfl rfl ?_
  refine v_icmp_ge (pc := 7) (tgt := 31) K dX4_isBare_7 (by decide) (fun c8 => ?_) (fun c8 => ?_)
  · have h := it c8 h
    have e := lx h hk
    exact v_fg [false, false, false] (hJ3 _ e.symm)
  · have h := ie c8 h
    refine v_aload0 (pc := 10) K dX4_isBare_10 ?_
    refine v_getR (pc := 11) K fl_RX4_13 dX4_isBare_11 (Nat.le_of_ble_eq_true rfl) rfl rfl ?_
    refine v_iload2 (pc := 14) K dX4_isBare_14 ?_
    refine v_iload1 (pc := 15) K dX4_isBare_15 ?_
    obtain ⟨v9, h10, h⟩ := bd h
    refine v_cS2I (pc := 16)  K ca_yX4_at ml_RX4_94 (t_X4_at _ K.nt K.ad σ s1 a0 v9 h10) (Nat.le_of_ble_eq_true rfl) (by decide) (by decide) dX4_isBare_16 ?_
    obtain ⟨j11, h12, h⟩ := bd h
    refine v_zaload (pc := 19) K dX4_isBare_19 (Nat.le_of_ble_eq_true rfl) rfl h12 ?_
    refine v_if_eq (pc := 20) (tgt := 25) K dX4_isBare_20 (by decide) (fun c13 => ?_) (fun c13 => ?_)
    · have h := it c13 h
      refine v_iinc2 (pc := 25) (w := 1) K dX4_isBare_25 rfl (Nat.le_of_ble_eq_true rfl) (by decide) ?_
      refine v_goto (pc := 28) (tgt := 2) K dX4_isBare_28 (by decide) ?_
      have e := lfc h hk
      exact e
    · have h := ie c13 h
      refine v_ic0 (pc := 23) K dX4_isBare_23 ?_
      have h := congrArg some (hq6 _ (lx h hk).symm)
      cases h
      exact v_zret (pc := 24) K dX4_isBare_24 rfl rfl
set_option maxRecDepth 100000 in
def m_X4_bare (σ : St) : Option (Int32) :=
  ((lp 5000 (fun (s1 : Int32 × Int32) => (if σ.1 0 5 ≤ s1.2 then some (.inr s1.1) else ((m_X4_isBare σ s1.2).bind fun v9 => ((m_X4_flag σ v9).bind fun v11 => some (.inl ((s1.1 + v11), (s1.2 + 1))))))) ((0 : Int32), (0 : Int32))).bind fun (r2 : Int32) => some r2)
set_option maxHeartbeats 4000000 in
set_option maxRecDepth 100000 in
theorem t_X4_bare (l : Launch) (hnt : l.stackTraces = false) {E : Ev} {base : Nat} (hE : Adr YM E base) (σ : St) (r : Int32) (h : m_X4_bare σ = some r) : Ctr l yX4_bare cX4_bare 3 (some .int) 2 43 YM E base [.ref (E.2.2 0)] σ (.ok (some (.int r))) σ := by
  unfold m_X4_bare at h
  refine ofV 2 (by decide +kernel) rfl hE hnt (Nat.le_of_ble_eq_true rfl) rfl (fun M hN K => ?_)
  refine v_ic0 (pc := 0) K dX4_bare_0 ?_
  refine v_istore1 (pc := 1) K dX4_bare_1 rfl (Nat.le_of_ble_eq_true rfl) ?_
  refine v_ic0 (pc := 2) K dX4_bare_2 ?_
  refine v_istore2 (pc := 3) K dX4_bare_3 rfl (Nat.le_of_ble_eq_true rfl) ?_
  obtain ⟨r2, h4, h⟩ := bd h
  have hJ3 : V (mkX M YM E base 3 (.ok (some (.int r))) σ) σ 29 [none, some (.int r2), none] [] := by
    refine v_iload1 (pc := 29) K dX4_bare_29 ?_
    cases h
    exact v_iret (pc := 30) K dX4_bare_30 rfl rfl
  clear h
  have hL13 := lpv h4 (fun s1 : Int32 × Int32 => V (mkX M YM E base 3 (.ok (some (.int r))) σ) σ 4 [some (.ref (E.2.2 0)), some (.int s1.1), some (.int s1.2)] [])
  refine hL13 (fun s1 o h hk => ?_)
  refine v_iload2 (pc := 4) K dX4_bare_4 ?_
  refine v_aload0 (pc := 5) K dX4_bare_5 ?_
  refine v_getI (pc := 6) K fl_RX4_80 dX4_bare_6 (Nat.le_of_ble_eq_true rfl) rfl rfl ?_
  refine v_icmp_ge (pc := 9) (tgt := 29) K dX4_bare_9 (by decide) (fun c8 => ?_) (fun c8 => ?_)
  · have h := it c8 h
    have e := lx h hk
    cases e
    exact v_fg [false, true, false] hJ3
  · have h := ie c8 h
    refine v_iload1 (pc := 12) K dX4_bare_12 ?_
    refine v_aload0 (pc := 13) K dX4_bare_13 ?_
    refine v_iload2 (pc := 14) K dX4_bare_14 ?_
    obtain ⟨v9, h10, h⟩ := bd h
    refine v_cV1I (pc := 15)  K ca_yX4_isBare ml_RX4_132 (Nat.le_of_ble_eq_true rfl) rfl rfl (t_X4_isBare _ K.nt K.ad σ s1.2 v9 h10) (Nat.le_of_ble_eq_true rfl) (by decide) (by decide) dX4_bare_15 ?_
    obtain ⟨v11, h12, h⟩ := bd h
    refine v_cS1I (pc := 18)  K ca_yX4_flag ml_RX4_123 (t_X4_flag _ K.nt K.ad σ v9 v11 h12) (Nat.le_of_ble_eq_true rfl) (by decide) (by decide) dX4_bare_18 ?_
    refine v_iadd (pc := 21) K dX4_bare_21 ?_
    refine v_istore1 (pc := 22) K dX4_bare_22 rfl (Nat.le_of_ble_eq_true rfl) ?_
    refine v_iinc2 (pc := 23) (w := 1) K dX4_bare_23 rfl (Nat.le_of_ble_eq_true rfl) (by decide) ?_
    refine v_goto (pc := 26) (tgt := 4) K dX4_bare_26 (by decide) ?_
    have e := lfc h hk
    exact e
set_option maxRecDepth 100000 in
def m_X4_has (σ : St) (a0 : Int32) : Option (Int32 × St) :=
  (if a0 = 0 then some ((sI σ 0 0 (0 : Int32)).1 0 5, (sI σ 0 0 (0 : Int32))) else (if a0 = 1 then some ((sI σ 0 0 (0 : Int32)).1 0 6, (sI σ 0 0 (0 : Int32))) else (if a0 = 2 then ((m_X4_numbers (sI σ 0 0 (0 : Int32))).bind fun v4 => some (v4, (sI σ 0 0 (0 : Int32)))) else (if a0 = 3 then ((m_X4_numbers (sI σ 0 0 (0 : Int32))).bind fun v7 => some ((((sI σ 0 0 (0 : Int32)).1 0 5 * (sI σ 0 0 (0 : Int32)).1 0 6) - v7), (sI σ 0 0 (0 : Int32)))) else (if a0 = 4 then ((m_X4_widths (sI σ 0 0 (0 : Int32))).bind fun v10 => some (v10, (sI σ 0 0 (0 : Int32)))) else (if a0 = 5 then ((m_X4_bare (sI σ 0 0 (0 : Int32))).bind fun v13 => some (v13, (sI σ 0 0 (0 : Int32)))) else (if a0 = 6 then some ((sI σ 0 0 (0 : Int32)).1 0 7, (sI σ 0 0 (0 : Int32))) else some (((-1) : Int32), (sI σ 0 0 (0 : Int32))))))))))
set_option maxHeartbeats 4000000 in
set_option maxRecDepth 100000 in
theorem t_X4_has (l : Launch) (hnt : l.stackTraces = false) {E : Ev} {base : Nat} (hE : Adr YM E base) (σ : St) (a0 : Int32) (r : Int32 × St) (h : m_X4_has σ a0 = some r) : Ctr l yX4_has cX4_has 2 (some .int) 3 66 YM E base [.ref (E.2.2 0), .int a0] σ (.ok (some (.int r.1))) r.2 := by
  unfold m_X4_has at h
  refine ofV 0 (by decide +kernel) rfl hE hnt (Nat.le_of_ble_eq_true rfl) rfl (fun M hN K => ?_)
  refine v_aload0 (pc := 0) K dX4_has_0 ?_
  refine v_ic0 (pc := 1) K dX4_has_1 ?_
  refine v_put (pc := 2) K fw_RX4_69 dX4_has_2 rfl rfl (Nat.le_of_ble_eq_true rfl) rfl rfl ?_
  refine v_iload1 (pc := 5) K dX4_has_5 ?_
  by_cases c1 : a0 = 0
  · have h := it c1 h
    refine v_tsIn (pc := 6) (k := 0) (tgt := 48) K dX4_has_6 (by rw [c1]; rfl) (by decide) rfl (by decide) ?_
    refine v_aload0 (pc := 48) K dX4_has_48 ?_
    refine v_getI (pc := 49) K fl_RX4_80 dX4_has_49 (Nat.le_of_ble_eq_true rfl) rfl rfl ?_
    cases h
    exact v_iret (pc := 52) K dX4_has_52 rfl rfl
  have h := ie c1 h
  by_cases c2 : a0 = 1
  · have h := it c2 h
    refine v_tsIn (pc := 6) (k := 1) (tgt := 53) K dX4_has_6 (by rw [c2]; rfl) (by decide) rfl (by decide) ?_
    refine v_aload0 (pc := 53) K dX4_has_53 ?_
    refine v_getI (pc := 54) K fl_RX4_73 dX4_has_54 (Nat.le_of_ble_eq_true rfl) rfl rfl ?_
    cases h
    exact v_iret (pc := 57) K dX4_has_57 rfl rfl
  have h := ie c2 h
  by_cases c3 : a0 = 2
  · have h := it c3 h
    refine v_tsIn (pc := 6) (k := 2) (tgt := 58) K dX4_has_6 (by rw [c3]; rfl) (by decide) rfl (by decide) ?_
    refine v_aload0 (pc := 58) K dX4_has_58 ?_
    obtain ⟨v4, h5, h⟩ := bd h
    refine v_cV0I (pc := 59)  K ca_yX4_numbers ml_RX4_135 (Nat.le_of_ble_eq_true rfl) rfl rfl (t_X4_numbers _ K.nt K.ad (sI σ 0 0 (0 : Int32)) v4 h5) (Nat.le_of_ble_eq_true rfl) (by decide) (by decide) dX4_has_59 ?_
    cases h
    exact v_iret (pc := 62) K dX4_has_62 rfl rfl
  have h := ie c3 h
  by_cases c6 : a0 = 3
  · have h := it c6 h
    refine v_tsIn (pc := 6) (k := 3) (tgt := 63) K dX4_has_6 (by rw [c6]; rfl) (by decide) rfl (by decide) ?_
    refine v_aload0 (pc := 63) K dX4_has_63 ?_
    refine v_getI (pc := 64) K fl_RX4_80 dX4_has_64 (Nat.le_of_ble_eq_true rfl) rfl rfl ?_
    refine v_aload0 (pc := 67) K dX4_has_67 ?_
    refine v_getI (pc := 68) K fl_RX4_73 dX4_has_68 (Nat.le_of_ble_eq_true rfl) rfl rfl ?_
    refine v_imul (pc := 71) K dX4_has_71 ?_
    refine v_aload0 (pc := 72) K dX4_has_72 ?_
    obtain ⟨v7, h8, h⟩ := bd h
    refine v_cV0I (pc := 73)  K ca_yX4_numbers ml_RX4_135 (Nat.le_of_ble_eq_true rfl) rfl rfl (t_X4_numbers _ K.nt K.ad (sI σ 0 0 (0 : Int32)) v7 h8) (Nat.le_of_ble_eq_true rfl) (by decide) (by decide) dX4_has_73 ?_
    refine v_isub (pc := 76) K dX4_has_76 ?_
    cases h
    exact v_iret (pc := 77) K dX4_has_77 rfl rfl
  have h := ie c6 h
  by_cases c9 : a0 = 4
  · have h := it c9 h
    refine v_tsIn (pc := 6) (k := 4) (tgt := 78) K dX4_has_6 (by rw [c9]; rfl) (by decide) rfl (by decide) ?_
    refine v_aload0 (pc := 78) K dX4_has_78 ?_
    obtain ⟨v10, h11, h⟩ := bd h
    refine v_cV0I (pc := 79)  K ca_yX4_widths ml_RX4_139 (Nat.le_of_ble_eq_true rfl) rfl rfl (t_X4_widths _ K.nt K.ad (sI σ 0 0 (0 : Int32)) v10 h11) (Nat.le_of_ble_eq_true rfl) (by decide) (by decide) dX4_has_79 ?_
    cases h
    exact v_iret (pc := 82) K dX4_has_82 rfl rfl
  have h := ie c9 h
  by_cases c12 : a0 = 5
  · have h := it c12 h
    refine v_tsIn (pc := 6) (k := 5) (tgt := 83) K dX4_has_6 (by rw [c12]; rfl) (by decide) rfl (by decide) ?_
    refine v_aload0 (pc := 83) K dX4_has_83 ?_
    obtain ⟨v13, h14, h⟩ := bd h
    refine v_cV0I (pc := 84)  K ca_yX4_bare ml_RX4_142 (Nat.le_of_ble_eq_true rfl) rfl rfl (t_X4_bare _ K.nt K.ad (sI σ 0 0 (0 : Int32)) v13 h14) (Nat.le_of_ble_eq_true rfl) (by decide) (by decide) dX4_has_84 ?_
    cases h
    exact v_iret (pc := 87) K dX4_has_87 rfl rfl
  have h := ie c12 h
  by_cases c15 : a0 = 6
  · have h := it c15 h
    refine v_tsIn (pc := 6) (k := 6) (tgt := 88) K dX4_has_6 (by rw [c15]; rfl) (by decide) rfl (by decide) ?_
    refine v_aload0 (pc := 88) K dX4_has_88 ?_
    refine v_getI (pc := 89) K fl_RX4_102 dX4_has_89 (Nat.le_of_ble_eq_true rfl) rfl rfl ?_
    cases h
    exact v_iret (pc := 92) K dX4_has_92 rfl rfl
  have h := ie c15 h
  refine v_tsOut (pc := 6) (tgt := 93) K dX4_has_6 (ts_out 7 (by decide) (fun k hk => by match k, hk with | 0, _ => exact fun q => c1 q | 1, _ => exact fun q => c2 q | 2, _ => exact fun q => c3 q | 3, _ => exact fun q => c6 q | 4, _ => exact fun q => c9 q | 5, _ => exact fun q => c12 q | 6, _ => exact fun q => c15 q)) (by decide) ?_
  refine v_icm1 (pc := 93) K dX4_has_93 ?_
  cases h
  exact v_iret (pc := 94) K dX4_has_94 rfl rfl
set_option maxRecDepth 100000 in
def m_X4_widthOf (σ : St) (a0 : Int64) : Option (Int32) :=
  ((lp 5000 (fun (s1 : Int32) => ((m_X4_isIn σ a0 (-((1 : Int64) <<< (((s1 - (1 : Int32))).toInt64 &&& 63))) (((1 : Int64) <<< (((s1 - (1 : Int32))).toInt64 &&& 63)) - (1 : Int64))).bind fun v8 => (if v8 = 0 then some (.inl (s1 + 1)) else some (.inr s1)))) (2 : Int32)).bind fun (r2 : Int32) => some r2)
set_option maxHeartbeats 4000000 in
set_option maxRecDepth 100000 in
theorem t_X4_widthOf (l : Launch) (hnt : l.stackTraces = false) {E : Ev} {base : Nat} (hE : Adr YM E base) (σ : St) (a0 : Int64) (r : Int32) (h : m_X4_widthOf σ a0 = some r) : Ctr l yX4_widthOf cX4_widthOf 3 (some .int) 1 25 YM E base [.long a0] σ (.ok (some (.int r))) σ := by
  unfold m_X4_widthOf at h
  refine ofV 1 (by decide +kernel) rfl hE hnt (Nat.le_of_ble_eq_true rfl) rfl (fun M hN K => ?_)
  refine v_ic2 (pc := 0) K dX4_widthOf_0 ?_
  refine v_istore2 (pc := 1) K dX4_widthOf_1 rfl (Nat.le_of_ble_eq_true rfl) ?_
  obtain ⟨r2, h4, h⟩ := bd h
  have hJ3 : V (mkX M YM E base 3 (.ok (some (.int r))) σ) σ 28 [none, none, some (.int r2)] [] := by
    refine v_iload2 (pc := 28) K dX4_widthOf_28 ?_
    cases h
    exact v_iret (pc := 29) K dX4_widthOf_29 rfl rfl
  clear h
  have hL11 := lpv h4 (fun s1 : Int32 => V (mkX M YM E base 3 (.ok (some (.int r))) σ) σ 2 [some (.long a0), none, some (.int s1)] [])
  refine hL11 (fun s1 o h hk => ?_)
  refine v_lload0 (pc := 2) K dX4_widthOf_2 ?_
  refine v_lc1 (pc := 3) K dX4_widthOf_3 ?_
  refine v_iload2 (pc := 4) K dX4_widthOf_4 ?_
  refine v_ic1 (pc := 5) K dX4_widthOf_5 ?_
  refine v_isub (pc := 6) K dX4_widthOf_6 ?_
  refine v_lshl (pc := 7) K dX4_widthOf_7 ?_
  refine v_lneg (pc := 8) K dX4_widthOf_8 ?_
  refine v_lc1 (pc := 9) K dX4_widthOf_9 ?_
  refine v_iload2 (pc := 10) K dX4_widthOf_10 ?_
  refine v_ic1 (pc := 11) K dX4_widthOf_11 ?_
  refine v_isub (pc := 12) K dX4_widthOf_12 ?_
  refine v_lshl (pc := 13) K dX4_widthOf_13 ?_
  refine v_lc1 (pc := 14) K dX4_widthOf_14 ?_
  refine v_lsub (pc := 15) K dX4_widthOf_15 ?_
  obtain ⟨v8, h9, h⟩ := bd h
  refine v_cS3I (pc := 16)  K ca_yX4_isIn ml_RX4_76 (t_X4_isIn _ K.nt K.ad σ a0 (-((1 : Int64) <<< (((s1 - (1 : Int32))).toInt64 &&& 63))) (((1 : Int64) <<< (((s1 - (1 : Int32))).toInt64 &&& 63)) - (1 : Int64)) v8 h9) (Nat.le_of_ble_eq_true rfl) (by decide) (by decide) dX4_widthOf_16 ?_
  refine v_if_ne (pc := 19) (tgt := 28) K dX4_widthOf_19 (by decide) (fun c10 => ?_) (fun c10 => ?_)
  · have h := ie c10 h
    have e := lx h hk
    cases e
    exact v_fg [false, true, true] hJ3
  · have h := it c10 h
    refine v_iinc2 (pc := 22) (w := 1) K dX4_widthOf_22 rfl (Nat.le_of_ble_eq_true rfl) (by decide) ?_
    refine v_goto (pc := 25) (tgt := 2) K dX4_widthOf_25 (by decide) ?_
    have e := lfc h hk
    exact e
set_option maxRecDepth 100000 in
def m_X4_leastWidth (σ : St) (a0 : Int32) : Option (Int32) :=
  ((lp 5000 (fun (s1 : Int32 × Int32) => (if σ.1 0 5 ≤ s1.2 then some (.inr s1.1) else ((m_X4_at σ a0 s1.2).bind fun v9 => ((ix v9 1152).bind fun j11 => ((if σ.1 2 j11 = 0 then some s1.1 else ((m_X4_at σ a0 s1.2).bind fun v17 => ((ix v17 1152).bind fun j19 => ((m_X4_widthOf σ (σ.2 1 j19)).bind fun v21 => (if v21 ≤ s1.1 then some s1.1 else ((m_X4_at σ a0 s1.2).bind fun v24 => ((ix v24 1152).bind fun j26 => ((m_X4_widthOf σ (σ.2 1 j26)).bind fun v28 => some v28)))))))).bind fun (t13 : Int32) => some (.inl (t13, (s1.2 + 1)))))))) ((2 : Int32), (0 : Int32))).bind fun (r2 : Int32) => some r2)
set_option maxHeartbeats 4000000 in
set_option maxRecDepth 100000 in
theorem t_X4_leastWidth (l : Launch) (hnt : l.stackTraces = false) {E : Ev} {base : Nat} (hE : Adr YM E base) (σ : St) (a0 : Int32) (r : Int32) (h : m_X4_leastWidth σ a0 = some r) : Ctr l yX4_leastWidth cX4_leastWidth 4 (some .int) 2 47 YM E base [.ref (E.2.2 0), .int a0] σ (.ok (some (.int r))) σ := by
  unfold m_X4_leastWidth at h
  refine ofV 2 (by decide +kernel) rfl hE hnt (Nat.le_of_ble_eq_true rfl) rfl (fun M hN K => ?_)
  refine v_ic2 (pc := 0) K dX4_leastWidth_0 ?_
  refine v_istore2 (pc := 1) K dX4_leastWidth_1 rfl (Nat.le_of_ble_eq_true rfl) ?_
  refine v_ic0 (pc := 2) K dX4_leastWidth_2 ?_
  refine v_istore3 (pc := 3) K dX4_leastWidth_3 rfl (Nat.le_of_ble_eq_true rfl) ?_
  obtain ⟨r2, h4, h⟩ := bd h
  have hJ3 : V (mkX M YM E base 4 (.ok (some (.int r))) σ) σ 62 [none, none, some (.int r2), none] [] := by
    refine v_iload2 (pc := 62) K dX4_leastWidth_62 ?_
    cases h
    exact v_iret (pc := 63) K dX4_leastWidth_63 rfl rfl
  clear h
  have hL30 := lpv h4 (fun s1 : Int32 × Int32 => V (mkX M YM E base 4 (.ok (some (.int r))) σ) σ 4 [some (.ref (E.2.2 0)), some (.int a0), some (.int s1.1), some (.int s1.2)] [])
  refine hL30 (fun s1 o h hk => ?_)
  refine v_iload3 (pc := 4) K dX4_leastWidth_4 ?_
  refine v_aload0 (pc := 5) K dX4_leastWidth_5 ?_
  refine v_getI (pc := 6) K fl_RX4_80 dX4_leastWidth_6 (Nat.le_of_ble_eq_true rfl) rfl rfl ?_
  refine v_icmp_ge (pc := 9) (tgt := 62) K dX4_leastWidth_9 (by decide) (fun c8 => ?_) (fun c8 => ?_)
  · have h := it c8 h
    have e := lx h hk
    cases e
    exact v_fg [false, false, true, false] hJ3
  · have h := ie c8 h
    refine v_aload0 (pc := 12) K dX4_leastWidth_12 ?_
    refine v_getR (pc := 13) K fl_RX4_13 dX4_leastWidth_13 (Nat.le_of_ble_eq_true rfl) rfl rfl ?_
    refine v_iload1 (pc := 16) K dX4_leastWidth_16 ?_
    refine v_iload3 (pc := 17) K dX4_leastWidth_17 ?_
    obtain ⟨v9, h10, h⟩ := bd h
    refine v_cS2I (pc := 18)  K ca_yX4_at ml_RX4_94 (t_X4_at _ K.nt K.ad σ a0 s1.2 v9 h10) (Nat.le_of_ble_eq_true rfl) (by decide) (by decide) dX4_leastWidth_18 ?_
    obtain ⟨j11, h12, h⟩ := bd h
    refine v_zaload (pc := 21) K dX4_leastWidth_21 (Nat.le_of_ble_eq_true rfl) rfl h12 ?_
    obtain ⟨t13, h15, h⟩ := bd h
    have hJ14 : V (mkX M YM E base 4 (.ok (some (.int r))) σ) σ 56 [some (.ref (E.2.2 0)), some (.int a0), some (.int t13), some (.int s1.2)] [] := by
      refine v_iinc3 (pc := 56) (w := 1) K dX4_leastWidth_56 rfl (Nat.le_of_ble_eq_true rfl) (by decide) ?_
      refine v_goto (pc := 59) (tgt := 4) K dX4_leastWidth_59 (by decide) ?_
      have e := lfc h hk
      exact e
    clear h
    have h := h15
    refine v_if_eq (pc := 22) (tgt := 56) K dX4_leastWidth_22 (by decide) (fun c16 => ?_) (fun c16 => ?_)
    · have h := it c16 h
      cases h
      exact hJ14
    · have h := ie c16 h
      refine v_aload0 (pc := 25) K dX4_leastWidth_25 ?_
      refine v_getR (pc := 26) K fl_RX4_7 dX4_leastWidth_26 (Nat.le_of_ble_eq_true rfl) rfl rfl ?_
      refine v_iload1 (pc := 29) K dX4_leastWidth_29 ?_
      refine v_iload3 (pc := 30) K dX4_leastWidth_30 ?_
      obtain ⟨v17, h18, h⟩ := bd h
      refine v_cS2I (pc := 31)  K ca_yX4_at ml_RX4_94 (t_X4_at _ K.nt K.ad σ a0 s1.2 v17 h18) (Nat.le_of_ble_eq_true rfl) (by decide) (by decide) dX4_leastWidth_31 ?_
      obtain ⟨j19, h20, h⟩ := bd h
      refine v_laload (pc := 34) K dX4_leastWidth_34 (Nat.le_of_ble_eq_true rfl) rfl h20 ?_
      obtain ⟨v21, h22, h⟩ := bd h
      refine v_cS1I (pc := 35)  K ca_yX4_widthOf ml_RX4_145 (t_X4_widthOf _ K.nt K.ad σ (σ.2 1 j19) v21 h22) (Nat.le_of_ble_eq_true rfl) (by decide) (by decide) dX4_leastWidth_35 ?_
      refine v_iload2 (pc := 38) K dX4_leastWidth_38 ?_
      refine v_icmp_le (pc := 39) (tgt := 56) K dX4_leastWidth_39 (by decide) (fun c23 => ?_) (fun c23 => ?_)
      · have h := it c23 h
        cases h
        exact hJ14
      · have h := ie c23 h
        refine v_aload0 (pc := 42) K dX4_leastWidth_42 ?_
        refine v_getR (pc := 43) K fl_RX4_7 dX4_leastWidth_43 (Nat.le_of_ble_eq_true rfl) rfl rfl ?_
        refine v_iload1 (pc := 46) K dX4_leastWidth_46 ?_
        refine v_iload3 (pc := 47) K dX4_leastWidth_47 ?_
        obtain ⟨v24, h25, h⟩ := bd h
        refine v_cS2I (pc := 48)  K ca_yX4_at ml_RX4_94 (t_X4_at _ K.nt K.ad σ a0 s1.2 v24 h25) (Nat.le_of_ble_eq_true rfl) (by decide) (by decide) dX4_leastWidth_48 ?_
        obtain ⟨j26, h27, h⟩ := bd h
        refine v_laload (pc := 51) K dX4_leastWidth_51 (Nat.le_of_ble_eq_true rfl) rfl h27 ?_
        obtain ⟨v28, h29, h⟩ := bd h
        refine v_cS1I (pc := 52)  K ca_yX4_widthOf ml_RX4_145 (t_X4_widthOf _ K.nt K.ad σ (σ.2 1 j26) v28 h29) (Nat.le_of_ble_eq_true rfl) (by decide) (by decide) dX4_leastWidth_52 ?_
        refine v_istore2 (pc := 55) K dX4_leastWidth_55 rfl (Nat.le_of_ble_eq_true rfl) ?_
        cases h
        exact hJ14
set_option maxRecDepth 100000 in
def m_X4_width (σ : St) (a0 : Int32) (a1 : Int32) : Option (Int32 × St) :=
  ((m_X4_isColumn (sI σ 0 0 (0 : Int32)) a0).bind fun v1 => (if v1 = 0 then ((m_X4_fails (sI σ 0 0 (0 : Int32)) (1 : Int32)).bind fun v20 => some (v20.1, v20.2)) else ((m_X4_isIn (sI σ 0 0 (0 : Int32)) ((a1).toInt64) (0 : Int64) (2 : Int64)).bind fun v4 => (if v4 = 0 then ((m_X4_fails (sI σ 0 0 (0 : Int32)) (2 : Int32)).bind fun v18 => some (v18.1, v18.2)) else ((if a1 = 0 then ((ix a0 6).bind fun j16 => some ((sI σ 0 0 (0 : Int32)).1 3 j16)) else (if a1 = (1 : Int32) then ((m_X4_numbersOf (sI σ 0 0 (0 : Int32)) a0).bind fun v14 => some v14) else ((m_X4_leastWidth (sI σ 0 0 (0 : Int32)) a0).bind fun v12 => some v12))).bind fun (t7 : Int32) => some (t7, (sI σ 0 0 (0 : Int32))))))))
set_option maxHeartbeats 4000000 in
set_option maxRecDepth 100000 in
theorem t_X4_width (l : Launch) (hnt : l.stackTraces = false) {E : Ev} {base : Nat} (hE : Adr YM E base) (σ : St) (a0 : Int32) (a1 : Int32) (r : Int32 × St) (h : m_X4_width σ a0 a1 = some r) : Ctr l yX4_width cX4_width 3 (some .int) 3 70 YM E base [.ref (E.2.2 0), .int a0, .int a1] σ (.ok (some (.int r.1))) r.2 := by
  unfold m_X4_width at h
  refine ofV 0 (by decide +kernel) rfl hE hnt (Nat.le_of_ble_eq_true rfl) rfl (fun M hN K => ?_)
  refine v_aload0 (pc := 0) K dX4_width_0 ?_
  refine v_ic0 (pc := 1) K dX4_width_1 ?_
  refine v_put (pc := 2) K fw_RX4_69 dX4_width_2 rfl rfl (Nat.le_of_ble_eq_true rfl) rfl rfl ?_
  refine v_aload0 (pc := 5) K dX4_width_5 ?_
  refine v_iload1 (pc := 6) K dX4_width_6 ?_
  obtain ⟨v1, h2, h⟩ := bd h
  refine v_cV1I (pc := 7)  K ca_yX4_isColumn ml_RX4_87 (Nat.le_of_ble_eq_true rfl) rfl rfl (t_X4_isColumn _ K.nt K.ad (sI σ 0 0 (0 : Int32)) a0 v1 h2) (Nat.le_of_ble_eq_true rfl) (by decide) (by decide) dX4_width_7 ?_
  refine v_if_ne (pc := 10) (tgt := 19) K dX4_width_10 (by decide) (fun c3 => ?_) (fun c3 => ?_)
  · have h := ie c3 h
    refine v_iload2 (pc := 19) K dX4_width_19 ?_
    refine v_i2l (pc := 20) K dX4_width_20 ?_
    refine v_lc0 (pc := 21) K dX4_width_21 ?_
    refine v_ldc2 (pc := 22) K dX4_width_22 cl_RX4_85 ?_
    obtain ⟨v4, h5, h⟩ := bd h
    refine v_cS3I (pc := 25)  K ca_yX4_isIn ml_RX4_76 (t_X4_isIn _ K.nt K.ad (sI σ 0 0 (0 : Int32)) ((a1).toInt64) (0 : Int64) (2 : Int64) v4 h5) (Nat.le_of_ble_eq_true rfl) (by decide) (by decide) dX4_width_25 ?_
    refine v_if_ne (pc := 28) (tgt := 37) K dX4_width_28 (by decide) (fun c6 => ?_) (fun c6 => ?_)
    · have h := ie c6 h
      refine v_iload2 (pc := 37) K dX4_width_37 ?_
      obtain ⟨t7, h9, h⟩ := bd h
      have hJ8 : V (mkX M YM E base 3 (.ok (some (.int r.1))) r.2) (sI σ 0 0 (0 : Int32)) 68 [none, none, none] [.int t7] := by
        cases h
        exact v_iret (pc := 68) K dX4_width_68 rfl rfl
      clear h
      have h := h9
      refine v_if_ne (pc := 38) (tgt := 50) K dX4_width_38 (by decide) (fun c10 => ?_) (fun c10 => ?_)
      · have h := ie c10 h
        refine v_iload2 (pc := 50) K dX4_width_50 ?_
        refine v_ic1 (pc := 51) K dX4_width_51 ?_
        refine v_icmp_ne (pc := 52) (tgt := 63) K dX4_width_52 (by decide) (fun c11 => ?_) (fun c11 => ?_)
        · have h := ie c11 h
          refine v_aload0 (pc := 63) K dX4_width_63 ?_
          refine v_iload1 (pc := 64) K dX4_width_64 ?_
          obtain ⟨v12, h13, h⟩ := bd h
          refine v_cV1I (pc := 65)  K ca_yX4_leastWidth ml_RX4_149 (Nat.le_of_ble_eq_true rfl) rfl rfl (t_X4_leastWidth _ K.nt K.ad (sI σ 0 0 (0 : Int32)) a0 v12 h13) (Nat.le_of_ble_eq_true rfl) (by decide) (by decide) dX4_width_65 ?_
          cases h
          exact (v_fg [false, false, false] hJ8)
        · have h := it c11 h
          refine v_aload0 (pc := 55) K dX4_width_55 ?_
          refine v_iload1 (pc := 56) K dX4_width_56 ?_
          obtain ⟨v14, h15, h⟩ := bd h
          refine v_cV1I (pc := 57)  K ca_yX4_numbersOf ml_RX4_129 (Nat.le_of_ble_eq_true rfl) rfl rfl (t_X4_numbersOf _ K.nt K.ad (sI σ 0 0 (0 : Int32)) a0 v14 h15) (Nat.le_of_ble_eq_true rfl) (by decide) (by decide) dX4_width_57 ?_
          refine v_goto (pc := 60) (tgt := 68) K dX4_width_60 (by decide) ?_
          cases h
          exact (v_fg [false, false, false] hJ8)
      · have h := it c10 h
        refine v_aload0 (pc := 41) K dX4_width_41 ?_
        refine v_getR (pc := 42) K fl_RX4_17 dX4_width_42 (Nat.le_of_ble_eq_true rfl) rfl rfl ?_
        refine v_iload1 (pc := 45) K dX4_width_45 ?_
        obtain ⟨j16, h17, h⟩ := bd h
        refine v_iaload (pc := 46) K dX4_width_46 (Nat.le_of_ble_eq_true rfl) rfl h17 ?_
        refine v_goto (pc := 47) (tgt := 68) K dX4_width_47 (by decide) ?_
        cases h
        exact (v_fg [false, false, false] hJ8)
    · have h := it c6 h
      refine v_aload0 (pc := 31) K dX4_width_31 ?_
      refine v_ic2 (pc := 32) K dX4_width_32 ?_
      obtain ⟨v18, h19, h⟩ := bd h
      refine v_cV1I (pc := 33)  K ca_yX4_fails ml_RX4_105 (Nat.le_of_ble_eq_true rfl) rfl rfl (t_X4_fails _ K.nt K.ad (sI σ 0 0 (0 : Int32)) (2 : Int32) v18 h19) (Nat.le_of_ble_eq_true rfl) (by decide) (by decide) dX4_width_33 ?_
      cases h
      exact v_iret (pc := 36) K dX4_width_36 rfl rfl
  · have h := it c3 h
    refine v_aload0 (pc := 13) K dX4_width_13 ?_
    refine v_ic1 (pc := 14) K dX4_width_14 ?_
    obtain ⟨v20, h21, h⟩ := bd h
    refine v_cV1I (pc := 15)  K ca_yX4_fails ml_RX4_105 (Nat.le_of_ble_eq_true rfl) rfl rfl (t_X4_fails _ K.nt K.ad (sI σ 0 0 (0 : Int32)) (1 : Int32) v20 h21) (Nat.le_of_ble_eq_true rfl) (by decide) (by decide) dX4_width_15 ?_
    cases h
    exact v_iret (pc := 18) K dX4_width_18 rfl rfl
set_option maxRecDepth 100000 in
def m_X4_isWord (σ : St) (a0 : Int32) : Option (Int32) :=
  ((m_X4_isIn σ ((a0).toInt64) (0 : Int64) (2 : Int64)).bind fun v1 => some (nz v1))
set_option maxHeartbeats 4000000 in
set_option maxRecDepth 100000 in
theorem t_X4_isWord (l : Launch) (hnt : l.stackTraces = false) {E : Ev} {base : Nat} (hE : Adr YM E base) (σ : St) (a0 : Int32) (r : Int32) (h : m_X4_isWord σ a0 = some r) : Ctr l yX4_isWord cX4_isWord 1 (some .boolean) 1 25 YM E base [.int a0] σ (.ok (some (.int r))) σ := by
  unfold m_X4_isWord at h
  refine ofV 0 (by decide +kernel) rfl hE hnt (Nat.le_of_ble_eq_true rfl) rfl (fun M hN K => ?_)
  refine v_iload0 (pc := 0) K dX4_isWord_0 ?_
  refine v_i2l (pc := 1) K dX4_isWord_1 ?_
  refine v_lc0 (pc := 2) K dX4_isWord_2 ?_
  refine v_ldc2 (pc := 3) K dX4_isWord_3 cl_RX4_85 ?_
  obtain ⟨v1, h2, h⟩ := bd h
  refine v_cS3I (pc := 6)  K ca_yX4_isIn ml_RX4_76 (t_X4_isIn _ K.nt K.ad σ ((a0).toInt64) (0 : Int64) (2 : Int64) v1 h2) (Nat.le_of_ble_eq_true rfl) (by decide) (by decide) dX4_isWord_6 ?_
  cases h
  exact v_zret (pc := 9) K dX4_isWord_9 rfl rfl
set_option maxRecDepth 100000 in
def m_X4_slice (σ : St) (a0 : Int32) (a1 : Int32) (a2 : Int32) : Option (Int64 × St) :=
  ((m_X4_isColumn (sI σ 0 0 (0 : Int32)) a0).bind fun v1 => (if v1 = 0 then ((m_X4_fails (sI σ 0 0 (0 : Int32)) (1 : Int32)).bind fun v4 => some ((v4.1).toInt64, v4.2)) else ((m_X4_isWord (sI σ 0 0 (0 : Int32)) a2).bind fun v6 => (if v6 = 0 then ((m_X4_fails (sI σ 0 0 (0 : Int32)) (1 : Int32)).bind fun v9 => some ((v9.1).toInt64, v9.2)) else ((ix a0 6).bind fun j11 => ((m_X4_isIn (sI σ 0 0 (0 : Int32)) ((a1).toInt64) (0 : Int64) ((((sI σ 0 0 (0 : Int32)).1 3 j11 - (1 : Int32))).toInt64)).bind fun v13 => (if v13 = 0 then ((m_X4_fails (sI σ 0 0 (0 : Int32)) (1 : Int32)).bind fun v38 => some ((v38.1).toInt64, v38.2)) else ((lp 5000 (fun (s16 : Int64 × Int32) => (if (64 : Int32) ≤ s16.2 then some (.inr s16.1) else ((if (sI σ 0 0 (0 : Int32)).1 0 5 ≤ (((64 : Int32) * a2) + s16.2) then some s16.1 else ((m_X4_at (sI σ 0 0 (0 : Int32)) a0 (((64 : Int32) * a2) + s16.2)).bind fun v28 => ((ix v28 1152).bind fun j30 => (if (sI σ 0 0 (0 : Int32)).1 2 j30 = 0 then some s16.1 else ((m_X4_at (sI σ 0 0 (0 : Int32)) a0 (((64 : Int32) * a2) + s16.2)).bind fun v33 => ((ix v33 1152).bind fun j35 => some (s16.1 ||| ((((sI σ 0 0 (0 : Int32)).2 1 j35 >>> ((a1).toInt64 &&& 63)) &&& (1 : Int64)) <<< ((s16.2).toInt64 &&& 63))))))))).bind fun (t24 : Int64) => some (.inl (t24, (s16.2 + 1)))))) ((0 : Int64), (0 : Int32))).bind fun (r17 : Int64) => some (r17, (sI σ 0 0 (0 : Int32)))))))))))
set_option maxHeartbeats 4000000 in
set_option maxRecDepth 100000 in
theorem t_X4_slice (l : Launch) (hnt : l.stackTraces = false) {E : Ev} {base : Nat} (hE : Adr YM E base) (σ : St) (a0 : Int32) (a1 : Int32) (a2 : Int32) (r : Int64 × St) (h : m_X4_slice σ a0 a1 a2 = some r) : Ctr l yX4_slice cX4_slice 8 (some .long) 2 46 YM E base [.ref (E.2.2 0), .int a0, .int a1, .int a2] σ (.ok (some (.long r.1))) r.2 := by
  unfold m_X4_slice at h
  refine ofV 4 (by decide +kernel) rfl hE hnt (Nat.le_of_ble_eq_true rfl) rfl (fun M hN K => ?_)
  refine v_aload0 (pc := 0) K dX4_slice_0 ?_
  refine v_ic0 (pc := 1) K dX4_slice_1 ?_
  refine v_put (pc := 2) K fw_RX4_69 dX4_slice_2 rfl rfl (Nat.le_of_ble_eq_true rfl) rfl rfl ?_
  refine v_aload0 (pc := 5) K dX4_slice_5 ?_
  refine v_iload1 (pc := 6) K dX4_slice_6 ?_
  obtain ⟨v1, h2, h⟩ := bd h
  refine v_cV1I (pc := 7)  K ca_yX4_isColumn ml_RX4_87 (Nat.le_of_ble_eq_true rfl) rfl rfl (t_X4_isColumn _ K.nt K.ad (sI σ 0 0 (0 : Int32)) a0 v1 h2) (Nat.le_of_ble_eq_true rfl) (by decide) (by decide) dX4_slice_7 ?_
  refine v_if_eq (pc := 10) (tgt := 38) K dX4_slice_10 (by decide) (fun c3 => ?_) (fun c3 => ?_)
  · have h := it c3 h
    refine v_aload0 (pc := 38) K dX4_slice_38 ?_
    refine v_ic1 (pc := 39) K dX4_slice_39 ?_
    obtain ⟨v4, h5, h⟩ := bd h
    refine v_cV1I (pc := 40)  K ca_yX4_fails ml_RX4_105 (Nat.le_of_ble_eq_true rfl) rfl rfl (t_X4_fails _ K.nt K.ad (sI σ 0 0 (0 : Int32)) (1 : Int32) v4 h5) (Nat.le_of_ble_eq_true rfl) (by decide) (by decide) dX4_slice_40 ?_
    refine v_i2l (pc := 43) K dX4_slice_43 ?_
    cases h
    exact v_lret (pc := 44) K dX4_slice_44 rfl rfl
  · have h := ie c3 h
    refine v_iload3 (pc := 13) K dX4_slice_13 ?_
    obtain ⟨v6, h7, h⟩ := bd h
    refine v_cS1I (pc := 14)  K ca_yX4_isWord ml_RX4_152 (t_X4_isWord _ K.nt K.ad (sI σ 0 0 (0 : Int32)) a2 v6 h7) (Nat.le_of_ble_eq_true rfl) (by decide) (by decide) dX4_slice_14 ?_
    refine v_if_eq (pc := 17) (tgt := 38) K dX4_slice_17 (by decide) (fun c8 => ?_) (fun c8 => ?_)
    · have h := it c8 h
      refine v_aload0 (pc := 38) K dX4_slice_38 ?_
      refine v_ic1 (pc := 39) K dX4_slice_39 ?_
      obtain ⟨v9, h10, h⟩ := bd h
      refine v_cV1I (pc := 40)  K ca_yX4_fails ml_RX4_105 (Nat.le_of_ble_eq_true rfl) rfl rfl (t_X4_fails _ K.nt K.ad (sI σ 0 0 (0 : Int32)) (1 : Int32) v9 h10) (Nat.le_of_ble_eq_true rfl) (by decide) (by decide) dX4_slice_40 ?_
      refine v_i2l (pc := 43) K dX4_slice_43 ?_
      cases h
      exact v_lret (pc := 44) K dX4_slice_44 rfl rfl
    · have h := ie c8 h
      refine v_iload2 (pc := 20) K dX4_slice_20 ?_
      refine v_i2l (pc := 21) K dX4_slice_21 ?_
      refine v_lc0 (pc := 22) K dX4_slice_22 ?_
      refine v_aload0 (pc := 23) K dX4_slice_23 ?_
      refine v_getR (pc := 24) K fl_RX4_17 dX4_slice_24 (Nat.le_of_ble_eq_true rfl) rfl rfl ?_
      refine v_iload1 (pc := 27) K dX4_slice_27 ?_
      obtain ⟨j11, h12, h⟩ := bd h
      refine v_iaload (pc := 28) K dX4_slice_28 (Nat.le_of_ble_eq_true rfl) rfl h12 ?_
      refine v_ic1 (pc := 29) K dX4_slice_29 ?_
      refine v_isub (pc := 30) K dX4_slice_30 ?_
      refine v_i2l (pc := 31) K dX4_slice_31 ?_
      obtain ⟨v13, h14, h⟩ := bd h
      refine v_cS3I (pc := 32)  K ca_yX4_isIn ml_RX4_76 (t_X4_isIn _ K.nt K.ad (sI σ 0 0 (0 : Int32)) ((a1).toInt64) (0 : Int64) ((((sI σ 0 0 (0 : Int32)).1 3 j11 - (1 : Int32))).toInt64) v13 h14) (Nat.le_of_ble_eq_true rfl) (by decide) (by decide) dX4_slice_32 ?_
      refine v_if_ne (pc := 35) (tgt := 45) K dX4_slice_35 (by decide) (fun c15 => ?_) (fun c15 => ?_)
      · have h := ie c15 h
        refine v_lc0 (pc := 45) K dX4_slice_45 ?_
        refine v_lstore4 (pc := 46) K dX4_slice_46 rfl (Nat.le_of_ble_eq_true rfl) ?_
        refine v_ic0 (pc := 48) K dX4_slice_48 ?_
        refine v_istore6 (pc := 49) K dX4_slice_49 rfl (Nat.le_of_ble_eq_true rfl) ?_
        obtain ⟨r17, h19, h⟩ := bd h
        have hJ18 : V (mkX M YM E base 8 (.ok (some (.long r.1))) r.2) (sI σ 0 0 (0 : Int32)) 119 [none, none, none, none, some (.long r17), none, none, none] [] := by
          refine v_lload4 (pc := 119) K dX4_slice_119 ?_
          cases h
          exact v_lret (pc := 121) K dX4_slice_121 rfl rfl
        clear h
        have hL37 := lpv h19 (fun s16 : Int64 × Int32 => V (mkX M YM E base 8 (.ok (some (.long r.1))) r.2) (sI σ 0 0 (0 : Int32)) 51 [some (.ref (E.2.2 0)), some (.int a0), some (.int a1), some (.int a2), some (.long s16.1), none, some (.int s16.2), none] [])
        refine hL37 (fun s16 o h hk => ?_)
        refine v_iload6 (pc := 51) K dX4_slice_51 ?_
        refine v_bipush (pc := 53) (v := 64) K dX4_slice_53 (by decide) ?_
        refine v_icmp_ge (pc := 55) (tgt := 119) K dX4_slice_55 (by decide) (fun c23 => ?_) (fun c23 => ?_)
        · have h := it c23 h
          have e := lx h hk
          cases e
          exact v_fg [false, false, false, false, true, true, false, true] hJ18
        · have h := ie c23 h
          refine v_bipush (pc := 58) (v := 64) K dX4_slice_58 (by decide) ?_
          refine v_iload3 (pc := 60) K dX4_slice_60 ?_
          refine v_imul (pc := 61) K dX4_slice_61 ?_
          refine v_iload6 (pc := 62) K dX4_slice_62 ?_
          refine v_iadd (pc := 64) K dX4_slice_64 ?_
          refine v_istore7 (pc := 65) K dX4_slice_65 rfl (Nat.le_of_ble_eq_true rfl) ?_
          refine v_iload7 (pc := 67) K dX4_slice_67 ?_
          refine v_aload0 (pc := 69) K dX4_slice_69 ?_
          refine v_getI (pc := 70) K fl_RX4_80 dX4_slice_70 (Nat.le_of_ble_eq_true rfl) rfl rfl ?_
          obtain ⟨t24, h26, h⟩ := bd h
          have hJ25 : V (mkX M YM E base 8 (.ok (some (.long r.1))) r.2) (sI σ 0 0 (0 : Int32)) 113 [some (.ref (E.2.2 0)), some (.int a0), some (.int a1), some (.int a2), some (.long t24), none, some (.int s16.2), none] [] := by
            refine v_iinc6 (pc := 113) (w := 1) K dX4_slice_113 rfl (Nat.le_of_ble_eq_true rfl) (by decide) ?_
            refine v_goto (pc := 116) (tgt := 51) K dX4_slice_116 (by decide) ?_
            have e := lfc h hk
            exact e
          clear h
          have h := h26
          refine v_icmp_ge (pc := 73) (tgt := 113) K dX4_slice_73 (by decide) (fun c27 => ?_) (fun c27 => ?_)
          · have h := it c27 h
            cases h
            exact (v_fg [true, true, true, true, true, true, true, false] hJ25)
          · have h := ie c27 h
            refine v_aload0 (pc := 76) K dX4_slice_76 ?_
            refine v_getR (pc := 77) K fl_RX4_13 dX4_slice_77 (Nat.le_of_ble_eq_true rfl) rfl rfl ?_
            refine v_iload1 (pc := 80) K dX4_slice_80 ?_
            refine v_iload7 (pc := 81) K dX4_slice_81 ?_
            obtain ⟨v28, h29, h⟩ := bd h
            refine v_cS2I (pc := 83)  K ca_yX4_at ml_RX4_94 (t_X4_at _ K.nt K.ad (sI σ 0 0 (0 : Int32)) a0 (((64 : Int32) * a2) + s16.2) v28 h29) (Nat.le_of_ble_eq_true rfl) (by decide) (by decide) dX4_slice_83 ?_
            obtain ⟨j30, h31, h⟩ := bd h
            refine v_zaload (pc := 86) K dX4_slice_86 (Nat.le_of_ble_eq_true rfl) rfl h31 ?_
            refine v_if_eq (pc := 87) (tgt := 113) K dX4_slice_87 (by decide) (fun c32 => ?_) (fun c32 => ?_)
            · have h := it c32 h
              cases h
              exact (v_fg [true, true, true, true, true, true, true, false] hJ25)
            · have h := ie c32 h
              refine v_lload4 (pc := 90) K dX4_slice_90 ?_
              refine v_aload0 (pc := 92) K dX4_slice_92 ?_
              refine v_getR (pc := 93) K fl_RX4_7 dX4_slice_93 (Nat.le_of_ble_eq_true rfl) rfl rfl ?_
              refine v_iload1 (pc := 96) K dX4_slice_96 ?_
              refine v_iload7 (pc := 97) K dX4_slice_97 ?_
              obtain ⟨v33, h34, h⟩ := bd h
              refine v_cS2I (pc := 99)  K ca_yX4_at ml_RX4_94 (t_X4_at _ K.nt K.ad (sI σ 0 0 (0 : Int32)) a0 (((64 : Int32) * a2) + s16.2) v33 h34) (Nat.le_of_ble_eq_true rfl) (by decide) (by decide) dX4_slice_99 ?_
              obtain ⟨j35, h36, h⟩ := bd h
              refine v_laload (pc := 102) K dX4_slice_102 (Nat.le_of_ble_eq_true rfl) rfl h36 ?_
              refine v_iload2 (pc := 103) K dX4_slice_103 ?_
              refine v_lshr (pc := 104) K dX4_slice_104 ?_
              refine v_lc1 (pc := 105) K dX4_slice_105 ?_
              refine v_land (pc := 106) K dX4_slice_106 ?_
              refine v_iload6 (pc := 107) K dX4_slice_107 ?_
              refine v_lshl (pc := 109) K dX4_slice_109 ?_
              refine v_lor (pc := 110) K dX4_slice_110 ?_
              refine v_lstore4 (pc := 111) K dX4_slice_111 rfl (Nat.le_of_ble_eq_true rfl) ?_
              cases h
              exact (v_fg [true, true, true, true, true, true, true, false] hJ25)
      · have h := it c15 h
        refine v_aload0 (pc := 38) K dX4_slice_38 ?_
        refine v_ic1 (pc := 39) K dX4_slice_39 ?_
        obtain ⟨v38, h39, h⟩ := bd h
        refine v_cV1I (pc := 40)  K ca_yX4_fails ml_RX4_105 (Nat.le_of_ble_eq_true rfl) rfl rfl (t_X4_fails _ K.nt K.ad (sI σ 0 0 (0 : Int32)) (1 : Int32) v38 h39) (Nat.le_of_ble_eq_true rfl) (by decide) (by decide) dX4_slice_40 ?_
        refine v_i2l (pc := 43) K dX4_slice_43 ?_
        cases h
        exact v_lret (pc := 44) K dX4_slice_44 rfl rfl
set_option maxRecDepth 100000 in
def m_X4_isMask (σ : St) (a0 : Int32) : Option (Int32) :=
  ((m_X4_isIn σ ((a0).toInt64) (0 : Int64) (7 : Int64)).bind fun v1 => some (nz v1))
set_option maxHeartbeats 4000000 in
set_option maxRecDepth 100000 in
theorem t_X4_isMask (l : Launch) (hnt : l.stackTraces = false) {E : Ev} {base : Nat} (hE : Adr YM E base) (σ : St) (a0 : Int32) (r : Int32) (h : m_X4_isMask σ a0 = some r) : Ctr l yX4_isMask cX4_isMask 1 (some .boolean) 1 25 YM E base [.int a0] σ (.ok (some (.int r))) σ := by
  unfold m_X4_isMask at h
  refine ofV 0 (by decide +kernel) rfl hE hnt (Nat.le_of_ble_eq_true rfl) rfl (fun M hN K => ?_)
  refine v_iload0 (pc := 0) K dX4_isMask_0 ?_
  refine v_i2l (pc := 1) K dX4_isMask_1 ?_
  refine v_lc0 (pc := 2) K dX4_isMask_2 ?_
  refine v_ldc2 (pc := 3) K dX4_isMask_3 cl_RX4_83 ?_
  obtain ⟨v1, h2, h⟩ := bd h
  refine v_cS3I (pc := 6)  K ca_yX4_isIn ml_RX4_76 (t_X4_isIn _ K.nt K.ad σ ((a0).toInt64) (0 : Int64) (7 : Int64) v1 h2) (Nat.le_of_ble_eq_true rfl) (by decide) (by decide) dX4_isMask_6 ?_
  cases h
  exact v_zret (pc := 9) K dX4_isMask_9 rfl rfl
set_option maxRecDepth 100000 in
def m_X4_canMask (σ : St) (a0 : Int32) (a1 : Int32) (a2 : Int32) : Option (Int32) :=
  (if a0 = 0 then some (nz (1 : Int32)) else (if a0 = 1 then some (nz (1 : Int32)) else (if a0 = 2 then ((m_X4_isIn σ ((a1).toInt64) (0 : Int64) ((σ.1 0 5).toInt64)).bind fun v4 => ((if v4 = 0 then some (0 : Int32) else ((m_X4_isIn σ ((a2).toInt64) ((a1).toInt64) ((σ.1 0 5).toInt64)).bind fun v10 => (if v10 = 0 then some (0 : Int32) else some (1 : Int32)))).bind fun (t6 : Int32) => some (nz t6))) else (if a0 = 3 then ((if a1 ≤ 0 then some (0 : Int32) else ((m_X4_isIn σ ((a2).toInt64) (0 : Int64) (((a1 - (1 : Int32))).toInt64)).bind fun v18 => (if v18 = 0 then some (0 : Int32) else some (1 : Int32)))).bind fun (t14 : Int32) => some (nz t14)) else some (nz (0 : Int32))))))
set_option maxHeartbeats 4000000 in
set_option maxRecDepth 100000 in
theorem t_X4_canMask (l : Launch) (hnt : l.stackTraces = false) {E : Ev} {base : Nat} (hE : Adr YM E base) (σ : St) (a0 : Int32) (a1 : Int32) (a2 : Int32) (r : Int32) (h : m_X4_canMask σ a0 a1 a2 = some r) : Ctr l yX4_canMask cX4_canMask 4 (some .boolean) 1 25 YM E base [.ref (E.2.2 0), .int a0, .int a1, .int a2] σ (.ok (some (.int r))) σ := by
  unfold m_X4_canMask at h
  refine ofV 0 (by decide +kernel) rfl hE hnt (Nat.le_of_ble_eq_true rfl) rfl (fun M hN K => ?_)
  refine v_iload1 (pc := 0) K dX4_canMask_0 ?_
  by_cases c1 : a0 = 0
  · have h := it c1 h
    refine v_tsIn (pc := 1) (k := 0) (tgt := 32) K dX4_canMask_1 (by rw [c1]; rfl) (by decide) rfl (by decide) ?_
    refine v_ic1 (pc := 32) K dX4_canMask_32 ?_
    cases h
    exact v_zret (pc := 33) K dX4_canMask_33 rfl rfl
  have h := ie c1 h
  by_cases c2 : a0 = 1
  · have h := it c2 h
    refine v_tsIn (pc := 1) (k := 1) (tgt := 32) K dX4_canMask_1 (by rw [c2]; rfl) (by decide) rfl (by decide) ?_
    refine v_ic1 (pc := 32) K dX4_canMask_32 ?_
    cases h
    exact v_zret (pc := 33) K dX4_canMask_33 rfl rfl
  have h := ie c2 h
  by_cases c3 : a0 = 2
  · have h := it c3 h
    refine v_tsIn (pc := 1) (k := 2) (tgt := 34) K dX4_canMask_1 (by rw [c3]; rfl) (by decide) rfl (by decide) ?_
    refine v_iload2 (pc := 34) K dX4_canMask_34 ?_
    refine v_i2l (pc := 35) K dX4_canMask_35 ?_
    refine v_lc0 (pc := 36) K dX4_canMask_36 ?_
    refine v_aload0 (pc := 37) K dX4_canMask_37 ?_
    refine v_getI (pc := 38) K fl_RX4_80 dX4_canMask_38 (Nat.le_of_ble_eq_true rfl) rfl rfl ?_
    refine v_i2l (pc := 41) K dX4_canMask_41 ?_
    obtain ⟨v4, h5, h⟩ := bd h
    refine v_cS3I (pc := 42)  K ca_yX4_isIn ml_RX4_76 (t_X4_isIn _ K.nt K.ad σ ((a1).toInt64) (0 : Int64) ((σ.1 0 5).toInt64) v4 h5) (Nat.le_of_ble_eq_true rfl) (by decide) (by decide) dX4_canMask_42 ?_
    obtain ⟨t6, h8, h⟩ := bd h
    have hJ7 : V (mkX M YM E base 4 (.ok (some (.int r))) σ) σ 68 [none, none, none, none] [.int t6] := by
      cases h
      exact v_zret (pc := 68) K dX4_canMask_68 rfl rfl
    clear h
    have h := h8
    refine v_if_eq (pc := 45) (tgt := 67) K dX4_canMask_45 (by decide) (fun c9 => ?_) (fun c9 => ?_)
    · have h := it c9 h
      refine v_ic0 (pc := 67) K dX4_canMask_67 ?_
      cases h
      exact (v_fg [false, false, false, false] hJ7)
    · have h := ie c9 h
      refine v_iload3 (pc := 48) K dX4_canMask_48 ?_
      refine v_i2l (pc := 49) K dX4_canMask_49 ?_
      refine v_iload2 (pc := 50) K dX4_canMask_50 ?_
      refine v_i2l (pc := 51) K dX4_canMask_51 ?_
      refine v_aload0 (pc := 52) K dX4_canMask_52 ?_
      refine v_getI (pc := 53) K fl_RX4_80 dX4_canMask_53 (Nat.le_of_ble_eq_true rfl) rfl rfl ?_
      refine v_i2l (pc := 56) K dX4_canMask_56 ?_
      obtain ⟨v10, h11, h⟩ := bd h
      refine v_cS3I (pc := 57)  K ca_yX4_isIn ml_RX4_76 (t_X4_isIn _ K.nt K.ad σ ((a2).toInt64) ((a1).toInt64) ((σ.1 0 5).toInt64) v10 h11) (Nat.le_of_ble_eq_true rfl) (by decide) (by decide) dX4_canMask_57 ?_
      refine v_if_eq (pc := 60) (tgt := 67) K dX4_canMask_60 (by decide) (fun c12 => ?_) (fun c12 => ?_)
      · have h := it c12 h
        refine v_ic0 (pc := 67) K dX4_canMask_67 ?_
        cases h
        exact (v_fg [false, false, false, false] hJ7)
      · have h := ie c12 h
        refine v_ic1 (pc := 63) K dX4_canMask_63 ?_
        refine v_goto (pc := 64) (tgt := 68) K dX4_canMask_64 (by decide) ?_
        cases h
        exact (v_fg [false, false, false, false] hJ7)
  have h := ie c3 h
  by_cases c13 : a0 = 3
  · have h := it c13 h
    refine v_tsIn (pc := 1) (k := 3) (tgt := 69) K dX4_canMask_1 (by rw [c13]; rfl) (by decide) rfl (by decide) ?_
    refine v_iload2 (pc := 69) K dX4_canMask_69 ?_
    obtain ⟨t14, h16, h⟩ := bd h
    have hJ15 : V (mkX M YM E base 4 (.ok (some (.int r))) σ) σ 91 [none, none, none, none] [.int t14] := by
      cases h
      exact v_zret (pc := 91) K dX4_canMask_91 rfl rfl
    clear h
    have h := h16
    refine v_if_le (pc := 70) (tgt := 90) K dX4_canMask_70 (by decide) (fun c17 => ?_) (fun c17 => ?_)
    · have h := it c17 h
      refine v_ic0 (pc := 90) K dX4_canMask_90 ?_
      cases h
      exact (v_fg [false, false, false, false] hJ15)
    · have h := ie c17 h
      refine v_iload3 (pc := 73) K dX4_canMask_73 ?_
      refine v_i2l (pc := 74) K dX4_canMask_74 ?_
      refine v_lc0 (pc := 75) K dX4_canMask_75 ?_
      refine v_iload2 (pc := 76) K dX4_canMask_76 ?_
      refine v_ic1 (pc := 77) K dX4_canMask_77 ?_
      refine v_isub (pc := 78) K dX4_canMask_78 ?_
      refine v_i2l (pc := 79) K dX4_canMask_79 ?_
      obtain ⟨v18, h19, h⟩ := bd h
      refine v_cS3I (pc := 80)  K ca_yX4_isIn ml_RX4_76 (t_X4_isIn _ K.nt K.ad σ ((a2).toInt64) (0 : Int64) (((a1 - (1 : Int32))).toInt64) v18 h19) (Nat.le_of_ble_eq_true rfl) (by decide) (by decide) dX4_canMask_80 ?_
      refine v_if_eq (pc := 83) (tgt := 90) K dX4_canMask_83 (by decide) (fun c20 => ?_) (fun c20 => ?_)
      · have h := it c20 h
        refine v_ic0 (pc := 90) K dX4_canMask_90 ?_
        cases h
        exact (v_fg [false, false, false, false] hJ15)
      · have h := ie c20 h
        refine v_ic1 (pc := 86) K dX4_canMask_86 ?_
        refine v_goto (pc := 87) (tgt := 91) K dX4_canMask_87 (by decide) ?_
        cases h
        exact (v_fg [false, false, false, false] hJ15)
  have h := ie c13 h
  refine v_tsOut (pc := 1) (tgt := 92) K dX4_canMask_1 (ts_out 4 (by decide) (fun k hk => by match k, hk with | 0, _ => exact fun q => c1 q | 1, _ => exact fun q => c2 q | 2, _ => exact fun q => c3 q | 3, _ => exact fun q => c13 q)) (by decide) ?_
  refine v_ic0 (pc := 92) K dX4_canMask_92 ?_
  cases h
  exact v_zret (pc := 93) K dX4_canMask_93 rfl rfl
set_option maxRecDepth 100000 in
def m_X4_becomes (σ : St) (a0 : Int32) : Option (Int32 × St) :=
  ((lp 5000 (fun (s1 : Int32 × Int32 × St) => (if (192 : Int32) ≤ s1.2.1 then some (.inr (s1.1, s1.2.2)) else ((m_X4_at s1.2.2 a0 s1.2.1).bind fun v9 => ((if s1.2.2.1 0 5 ≤ s1.2.1 then some (0 : Int32) else ((ix s1.2.1 192).bind fun j15 => (if s1.2.2.1 5 j15 = 0 then some (0 : Int32) else some (1 : Int32)))).bind fun (t11 : Int32) => ((ix v9 1536).bind fun j18 => ((m_X4_at (sI s1.2.2 4 j18 (nz t11)) a0 s1.2.1).bind fun v20 => ((ix v20 1536).bind fun j22 => ((m_X4_flag (sI s1.2.2 4 j18 (nz t11)) ((sI s1.2.2 4 j18 (nz t11)).1 4 j22)).bind fun v24 => some (.inl ((s1.1 + v24), (s1.2.1 + 1), (sI s1.2.2 4 j18 (nz t11)))))))))))) ((0 : Int32), (0 : Int32), σ)).bind fun (r2 : Int32 × St) => some (r2.1, r2.2))
set_option maxHeartbeats 4000000 in
set_option maxRecDepth 100000 in
theorem t_X4_becomes (l : Launch) (hnt : l.stackTraces = false) {E : Ev} {base : Nat} (hE : Adr YM E base) (σ : St) (a0 : Int32) (r : Int32 × St) (h : m_X4_becomes σ a0 = some r) : Ctr l yX4_becomes cX4_becomes 4 (some .int) 1 21 YM E base [.ref (E.2.2 0), .int a0] σ (.ok (some (.int r.1))) r.2 := by
  unfold m_X4_becomes at h
  refine ofV 2 (by decide +kernel) rfl hE hnt (Nat.le_of_ble_eq_true rfl) rfl (fun M hN K => ?_)
  refine v_ic0 (pc := 0) K dX4_becomes_0 ?_
  refine v_istore2 (pc := 1) K dX4_becomes_1 rfl (Nat.le_of_ble_eq_true rfl) ?_
  refine v_ic0 (pc := 2) K dX4_becomes_2 ?_
  refine v_istore3 (pc := 3) K dX4_becomes_3 rfl (Nat.le_of_ble_eq_true rfl) ?_
  obtain ⟨r2, h4, h⟩ := bd h
  have hJ3 : V (mkX M YM E base 4 (.ok (some (.int r.1))) r.2) r2.2 65 [none, none, some (.int r2.1), none] [] := by
    refine v_iload2 (pc := 65) K dX4_becomes_65 ?_
    cases h
    exact v_iret (pc := 66) K dX4_becomes_66 rfl rfl
  clear h
  have hL26 := lpv h4 (fun s1 : Int32 × Int32 × St => V (mkX M YM E base 4 (.ok (some (.int r.1))) r.2) s1.2.2 4 [some (.ref (E.2.2 0)), some (.int a0), some (.int s1.1), some (.int s1.2.1)] [])
  refine hL26 (fun s1 o h hk => ?_)
  refine v_iload3 (pc := 4) K dX4_becomes_4 ?_
  refine v_sipush (pc := 5) (v := 192) K dX4_becomes_5 (by decide) ?_
  refine v_icmp_ge (pc := 8) (tgt := 65) K dX4_becomes_8 (by decide) (fun c8 => ?_) (fun c8 => ?_)
  · have h := it c8 h
    have e := lx h hk
    cases e
    exact v_fg [false, false, true, false] hJ3
  · have h := ie c8 h
    refine v_aload0 (pc := 11) K dX4_becomes_11 ?_
    refine v_getR (pc := 12) K fl_RX4_21 dX4_becomes_12 (Nat.le_of_ble_eq_true rfl) rfl rfl ?_
    refine v_iload1 (pc := 15) K dX4_becomes_15 ?_
    refine v_iload3 (pc := 16) K dX4_becomes_16 ?_
    obtain ⟨v9, h10, h⟩ := bd h
    refine v_cS2I (pc := 17)  K ca_yX4_at ml_RX4_94 (t_X4_at _ K.nt K.ad s1.2.2 a0 s1.2.1 v9 h10) (Nat.le_of_ble_eq_true rfl) (by decide) (by decide) dX4_becomes_17 ?_
    refine v_iload3 (pc := 20) K dX4_becomes_20 ?_
    refine v_aload0 (pc := 21) K dX4_becomes_21 ?_
    refine v_getI (pc := 22) K fl_RX4_80 dX4_becomes_22 (Nat.le_of_ble_eq_true rfl) rfl rfl ?_
    obtain ⟨t11, h13, h⟩ := bd h
    have hJ12 : V (mkX M YM E base 4 (.ok (some (.int r.1))) r.2) s1.2.2 42 [some (.ref (E.2.2 0)), some (.int a0), some (.int s1.1), some (.int s1.2.1)] [.int t11, .int v9, .ref (E.2.2 4)] := by
      obtain ⟨j18, h19, h⟩ := bd h
      refine v_zastore (pc := 42) K dX4_becomes_42 (Nat.le_of_ble_eq_true rfl) rfl h19 ?_
      refine v_iload2 (pc := 43) K dX4_becomes_43 ?_
      refine v_aload0 (pc := 44) K dX4_becomes_44 ?_
      refine v_getR (pc := 45) K fl_RX4_21 dX4_becomes_45 (Nat.le_of_ble_eq_true rfl) rfl rfl ?_
      refine v_iload1 (pc := 48) K dX4_becomes_48 ?_
      refine v_iload3 (pc := 49) K dX4_becomes_49 ?_
      obtain ⟨v20, h21, h⟩ := bd h
      refine v_cS2I (pc := 50)  K ca_yX4_at ml_RX4_94 (t_X4_at _ K.nt K.ad (sI s1.2.2 4 j18 (nz t11)) a0 s1.2.1 v20 h21) (Nat.le_of_ble_eq_true rfl) (by decide) (by decide) dX4_becomes_50 ?_
      obtain ⟨j22, h23, h⟩ := bd h
      refine v_zaload (pc := 53) K dX4_becomes_53 (Nat.le_of_ble_eq_true rfl) rfl h23 ?_
      obtain ⟨v24, h25, h⟩ := bd h
      refine v_cS1I (pc := 54)  K ca_yX4_flag ml_RX4_123 (t_X4_flag _ K.nt K.ad (sI s1.2.2 4 j18 (nz t11)) ((sI s1.2.2 4 j18 (nz t11)).1 4 j22) v24 h25) (Nat.le_of_ble_eq_true rfl) (by decide) (by decide) dX4_becomes_54 ?_
      refine v_iadd (pc := 57) K dX4_becomes_57 ?_
      refine v_istore2 (pc := 58) K dX4_becomes_58 rfl (Nat.le_of_ble_eq_true rfl) ?_
      refine v_iinc3 (pc := 59) (w := 1) K dX4_becomes_59 rfl (Nat.le_of_ble_eq_true rfl) (by decide) ?_
      refine v_goto (pc := 62) (tgt := 4) K dX4_becomes_62 (by decide) ?_
      have e := lfc h hk
      exact e
    clear h
    have h := h13
    refine v_icmp_ge (pc := 25) (tgt := 41) K dX4_becomes_25 (by decide) (fun c14 => ?_) (fun c14 => ?_)
    · have h := it c14 h
      refine v_ic0 (pc := 41) K dX4_becomes_41 ?_
      cases h
      exact hJ12
    · have h := ie c14 h
      refine v_aload0 (pc := 28) K dX4_becomes_28 ?_
      refine v_getR (pc := 29) K fl_RX4_24 dX4_becomes_29 (Nat.le_of_ble_eq_true rfl) rfl rfl ?_
      refine v_iload3 (pc := 32) K dX4_becomes_32 ?_
      obtain ⟨j15, h16, h⟩ := bd h
      refine v_zaload (pc := 33) K dX4_becomes_33 (Nat.le_of_ble_eq_true rfl) rfl h16 ?_
      refine v_if_eq (pc := 34) (tgt := 41) K dX4_becomes_34 (by decide) (fun c17 => ?_) (fun c17 => ?_)
      · have h := it c17 h
        refine v_ic0 (pc := 41) K dX4_becomes_41 ?_
        cases h
        exact hJ12
      · have h := ie c17 h
        refine v_ic1 (pc := 37) K dX4_becomes_37 ?_
        refine v_goto (pc := 38) (tgt := 42) K dX4_becomes_38 (by decide) ?_
        cases h
        exact hJ12
set_option maxRecDepth 100000 in
def m_X4_mask (σ : St) (a0 : Int32) (a1 : Int32) (a2 : Int32) (a3 : Int32) : Option (Int32 × St) :=
  ((m_X4_isMask (sI σ 0 0 (0 : Int32)) a0).bind fun v1 => (if v1 = 0 then ((m_X4_fails (sI σ 0 0 (0 : Int32)) (1 : Int32)).bind fun v38 => some (v38.1, v38.2)) else ((m_X4_canMask (sI σ 0 0 (0 : Int32)) a1 a2 a3).bind fun v4 => (if v4 = 0 then ((m_X4_fails (sI σ 0 0 (0 : Int32)) (2 : Int32)).bind fun v36 => some (v36.1, v36.2)) else ((lp 5000 (fun (s7 : Int32 × St) => (if (192 : Int32) ≤ s7.1 then some (.inr s7.2) else ((if a1 = 0 then some (1 : Int32) else (if a1 = (2 : Int32) then ((m_X4_isIn s7.2 ((s7.1).toInt64) ((a2).toInt64) (((a3 - (1 : Int32))).toInt64)).bind fun v24 => (if v24 = 0 then (if a1 = (3 : Int32) then (if s7.1 < a3 then some (0 : Int32) else (if a2 = 0 then none else (if ((s7.1 - a3) - (s7.1 - a3) / a2 * a2) = 0 then some (1 : Int32) else some (0 : Int32)))) else some (0 : Int32)) else some (1 : Int32))) else (if a1 = (3 : Int32) then (if s7.1 < a3 then some (0 : Int32) else (if a2 = 0 then none else (if ((s7.1 - a3) - (s7.1 - a3) / a2 * a2) = 0 then some (1 : Int32) else some (0 : Int32)))) else some (0 : Int32)))).bind fun (t15 : Int32) => ((ix s7.1 192).bind fun j31 => some (.inl ((s7.1 + 1), (sI s7.2 5 j31 (nz t15)))))))) ((0 : Int32), (sI σ 0 0 (0 : Int32)))).bind fun (r8 : St) => ((m_X4_becomes r8 a0).bind fun v33 => some (v33.1, v33.2)))))))
set_option maxHeartbeats 4000000 in
set_option maxRecDepth 100000 in
theorem t_X4_mask (l : Launch) (hnt : l.stackTraces = false) {E : Ev} {base : Nat} (hE : Adr YM E base) (σ : St) (a0 : Int32) (a1 : Int32) (a2 : Int32) (a3 : Int32) (r : Int32 × St) (h : m_X4_mask σ a0 a1 a2 a3 = some r) : Ctr l yX4_mask cX4_mask 6 (some .int) 2 48 YM E base [.ref (E.2.2 0), .int a0, .int a1, .int a2, .int a3] σ (.ok (some (.int r.1))) r.2 := by
  unfold m_X4_mask at h
  refine ofV 1 (by decide +kernel) rfl hE hnt (Nat.le_of_ble_eq_true rfl) rfl (fun M hN K => ?_)
  refine v_aload0 (pc := 0) K dX4_mask_0 ?_
  refine v_ic0 (pc := 1) K dX4_mask_1 ?_
  refine v_put (pc := 2) K fw_RX4_69 dX4_mask_2 rfl rfl (Nat.le_of_ble_eq_true rfl) rfl rfl ?_
  refine v_iload1 (pc := 5) K dX4_mask_5 ?_
  obtain ⟨v1, h2, h⟩ := bd h
  refine v_cS1I (pc := 6)  K ca_yX4_isMask ml_RX4_91 (t_X4_isMask _ K.nt K.ad (sI σ 0 0 (0 : Int32)) a0 v1 h2) (Nat.le_of_ble_eq_true rfl) (by decide) (by decide) dX4_mask_6 ?_
  refine v_if_ne (pc := 9) (tgt := 18) K dX4_mask_9 (by decide) (fun c3 => ?_) (fun c3 => ?_)
  · have h := ie c3 h
    refine v_aload0 (pc := 18) K dX4_mask_18 ?_
    refine v_iload2 (pc := 19) K dX4_mask_19 ?_
    refine v_iload3 (pc := 20) K dX4_mask_20 ?_
    refine v_iload4 (pc := 21) K dX4_mask_21 ?_
    obtain ⟨v4, h5, h⟩ := bd h
    refine v_cV3I (pc := 23)  K ca_yX4_canMask ml_RX4_155 (Nat.le_of_ble_eq_true rfl) rfl rfl (t_X4_canMask _ K.nt K.ad (sI σ 0 0 (0 : Int32)) a1 a2 a3 v4 h5) (Nat.le_of_ble_eq_true rfl) (by decide) (by decide) dX4_mask_23 ?_
    refine v_if_ne (pc := 26) (tgt := 35) K dX4_mask_26 (by decide) (fun c6 => ?_) (fun c6 => ?_)
    · have h := ie c6 h
      refine v_ic0 (pc := 35) K dX4_mask_35 ?_
      refine v_istore5 (pc := 36) K dX4_mask_36 rfl (Nat.le_of_ble_eq_true rfl) ?_
      obtain ⟨r8, h10, h⟩ := bd h
      have hJ9 : V (mkX M YM E base 6 (.ok (some (.int r.1))) r.2) r8 111 [some (.ref (E.2.2 0)), some (.int a0), none, none, none, none] [] := by
        refine v_aload0 (pc := 111) K dX4_mask_111 ?_
        refine v_iload1 (pc := 112) K dX4_mask_112 ?_
        obtain ⟨v33, h34, h⟩ := bd h
        refine v_cV1I (pc := 113)  K ca_yX4_becomes ml_RX4_159 (Nat.le_of_ble_eq_true rfl) rfl rfl (t_X4_becomes _ K.nt K.ad r8 a0 v33 h34) (Nat.le_of_ble_eq_true rfl) (by decide) (by decide) dX4_mask_113 ?_
        cases h
        exact v_iret (pc := 116) K dX4_mask_116 rfl rfl
      clear h
      have hL35 := lpv h10 (fun s7 : Int32 × St => V (mkX M YM E base 6 (.ok (some (.int r.1))) r.2) s7.2 38 [some (.ref (E.2.2 0)), some (.int a0), some (.int a1), some (.int a2), some (.int a3), some (.int s7.1)] [])
      refine hL35 (fun s7 o h hk => ?_)
      refine v_iload5 (pc := 38) K dX4_mask_38 ?_
      refine v_sipush (pc := 40) (v := 192) K dX4_mask_40 (by decide) ?_
      refine v_icmp_ge (pc := 43) (tgt := 111) K dX4_mask_43 (by decide) (fun c14 => ?_) (fun c14 => ?_)
      · have h := it c14 h
        have e := lx h hk
        cases e
        exact v_fg [true, true, false, false, false, false] hJ9
      · have h := ie c14 h
        refine v_aload0 (pc := 46) K dX4_mask_46 ?_
        refine v_getR (pc := 47) K fl_RX4_24 dX4_mask_47 (Nat.le_of_ble_eq_true rfl) rfl rfl ?_
        refine v_iload5 (pc := 50) K dX4_mask_50 ?_
        refine v_iload2 (pc := 52) K dX4_mask_52 ?_
        obtain ⟨t15, h17, h⟩ := bd h
        have hJ16 : V (mkX M YM E base 6 (.ok (some (.int r.1))) r.2) s7.2 104 [some (.ref (E.2.2 0)), some (.int a0), some (.int a1), some (.int a2), some (.int a3), some (.int s7.1)] [.int t15, .int s7.1, .ref (E.2.2 5)] := by
          obtain ⟨j31, h32, h⟩ := bd h
          refine v_zastore (pc := 104) K dX4_mask_104 (Nat.le_of_ble_eq_true rfl) rfl h32 ?_
          refine v_iinc5 (pc := 105) (w := 1) K dX4_mask_105 rfl (Nat.le_of_ble_eq_true rfl) (by decide) ?_
          refine v_goto (pc := 108) (tgt := 38) K dX4_mask_108 (by decide) ?_
          have e := lfc h hk
          exact e
        clear h
        have h := h17
        refine v_if_eq (pc := 53) (tgt := 99) K dX4_mask_53 (by decide) (fun c18 => ?_) (fun c18 => ?_)
        · have h := it c18 h
          refine v_ic1 (pc := 99) K dX4_mask_99 ?_
          refine v_goto (pc := 100) (tgt := 104) K dX4_mask_100 (by decide) ?_
          cases h
          exact hJ16
        · have h := ie c18 h
          refine v_iload2 (pc := 56) K dX4_mask_56 ?_
          refine v_ic2 (pc := 57) K dX4_mask_57 ?_
          refine v_icmp_ne (pc := 58) (tgt := 77) K dX4_mask_58 (by decide) (fun c19 => ?_) (fun c19 => ?_)
          · have h := ie c19 h
            refine v_iload2 (pc := 77) K dX4_mask_77 ?_
            refine v_ic3 (pc := 78) K dX4_mask_78 ?_
            refine v_icmp_ne (pc := 79) (tgt := 103) K dX4_mask_79 (by decide) (fun c20 => ?_) (fun c20 => ?_)
            · have h := ie c20 h
              refine v_ic0 (pc := 103) K dX4_mask_103 ?_
              cases h
              exact hJ16
            · have h := it c20 h
              refine v_iload5 (pc := 82) K dX4_mask_82 ?_
              refine v_iload4 (pc := 84) K dX4_mask_84 ?_
              refine v_icmp_lt (pc := 86) (tgt := 103) K dX4_mask_86 (by decide) (fun c21 => ?_) (fun c21 => ?_)
              · have h := it c21 h
                refine v_ic0 (pc := 103) K dX4_mask_103 ?_
                cases h
                exact hJ16
              · have h := ie c21 h
                refine v_iload5 (pc := 89) K dX4_mask_89 ?_
                refine v_iload4 (pc := 91) K dX4_mask_91 ?_
                refine v_isub (pc := 93) K dX4_mask_93 ?_
                refine v_iload3 (pc := 94) K dX4_mask_94 ?_
                by_cases c22 : a2 = 0
                · cases (it c22 h)
                have h := ie c22 h
                refine v_irem (pc := 95) K dX4_mask_95 c22 ?_
                refine v_if_ne (pc := 96) (tgt := 103) K dX4_mask_96 (by decide) (fun c23 => ?_) (fun c23 => ?_)
                · have h := ie c23 h
                  refine v_ic0 (pc := 103) K dX4_mask_103 ?_
                  cases h
                  exact hJ16
                · have h := it c23 h
                  refine v_ic1 (pc := 99) K dX4_mask_99 ?_
                  refine v_goto (pc := 100) (tgt := 104) K dX4_mask_100 (by decide) ?_
                  cases h
                  exact hJ16
          · have h := it c19 h
            refine v_iload5 (pc := 61) K dX4_mask_61 ?_
            refine v_i2l (pc := 63) K dX4_mask_63 ?_
            refine v_iload3 (pc := 64) K dX4_mask_64 ?_
            refine v_i2l (pc := 65) K dX4_mask_65 ?_
            refine v_iload4 (pc := 66) K dX4_mask_66 ?_
            refine v_ic1 (pc := 68) K dX4_mask_68 ?_
            refine v_isub (pc := 69) K dX4_mask_69 ?_
            refine v_i2l (pc := 70) K dX4_mask_70 ?_
            obtain ⟨v24, h25, h⟩ := bd h
            refine v_cS3I (pc := 71)  K ca_yX4_isIn ml_RX4_76 (t_X4_isIn _ K.nt K.ad s7.2 ((s7.1).toInt64) ((a2).toInt64) (((a3 - (1 : Int32))).toInt64) v24 h25) (Nat.le_of_ble_eq_true rfl) (by decide) (by decide) dX4_mask_71 ?_
            refine v_if_ne (pc := 74) (tgt := 99) K dX4_mask_74 (by decide) (fun c26 => ?_) (fun c26 => ?_)
            · have h := ie c26 h
              refine v_ic1 (pc := 99) K dX4_mask_99 ?_
              refine v_goto (pc := 100) (tgt := 104) K dX4_mask_100 (by decide) ?_
              cases h
              exact hJ16
            · have h := it c26 h
              refine v_iload2 (pc := 77) K dX4_mask_77 ?_
              refine v_ic3 (pc := 78) K dX4_mask_78 ?_
              refine v_icmp_ne (pc := 79) (tgt := 103) K dX4_mask_79 (by decide) (fun c27 => ?_) (fun c27 => ?_)
              · have h := ie c27 h
                refine v_ic0 (pc := 103) K dX4_mask_103 ?_
                cases h
                exact hJ16
              · have h := it c27 h
                refine v_iload5 (pc := 82) K dX4_mask_82 ?_
                refine v_iload4 (pc := 84) K dX4_mask_84 ?_
                refine v_icmp_lt (pc := 86) (tgt := 103) K dX4_mask_86 (by decide) (fun c28 => ?_) (fun c28 => ?_)
                · have h := it c28 h
                  refine v_ic0 (pc := 103) K dX4_mask_103 ?_
                  cases h
                  exact hJ16
                · have h := ie c28 h
                  refine v_iload5 (pc := 89) K dX4_mask_89 ?_
                  refine v_iload4 (pc := 91) K dX4_mask_91 ?_
                  refine v_isub (pc := 93) K dX4_mask_93 ?_
                  refine v_iload3 (pc := 94) K dX4_mask_94 ?_
                  by_cases c29 : a2 = 0
                  · cases (it c29 h)
                  have h := ie c29 h
                  refine v_irem (pc := 95) K dX4_mask_95 c29 ?_
                  refine v_if_ne (pc := 96) (tgt := 103) K dX4_mask_96 (by decide) (fun c30 => ?_) (fun c30 => ?_)
                  · have h := ie c30 h
                    refine v_ic0 (pc := 103) K dX4_mask_103 ?_
                    cases h
                    exact hJ16
                  · have h := it c30 h
                    refine v_ic1 (pc := 99) K dX4_mask_99 ?_
                    refine v_goto (pc := 100) (tgt := 104) K dX4_mask_100 (by decide) ?_
                    cases h
                    exact hJ16
    · have h := it c6 h
      refine v_aload0 (pc := 29) K dX4_mask_29 ?_
      refine v_ic2 (pc := 30) K dX4_mask_30 ?_
      obtain ⟨v36, h37, h⟩ := bd h
      refine v_cV1I (pc := 31)  K ca_yX4_fails ml_RX4_105 (Nat.le_of_ble_eq_true rfl) rfl rfl (t_X4_fails _ K.nt K.ad (sI σ 0 0 (0 : Int32)) (2 : Int32) v36 h37) (Nat.le_of_ble_eq_true rfl) (by decide) (by decide) dX4_mask_31 ?_
      cases h
      exact v_iret (pc := 34) K dX4_mask_34 rfl rfl
  · have h := it c3 h
    refine v_aload0 (pc := 12) K dX4_mask_12 ?_
    refine v_ic1 (pc := 13) K dX4_mask_13 ?_
    obtain ⟨v38, h39, h⟩ := bd h
    refine v_cV1I (pc := 14)  K ca_yX4_fails ml_RX4_105 (Nat.le_of_ble_eq_true rfl) rfl rfl (t_X4_fails _ K.nt K.ad (sI σ 0 0 (0 : Int32)) (1 : Int32) v38 h39) (Nat.le_of_ble_eq_true rfl) (by decide) (by decide) dX4_mask_14 ?_
    cases h
    exact v_iret (pc := 17) K dX4_mask_17 rfl rfl
set_option maxRecDepth 100000 in
def m_X4_bits (σ : St) (a0 : Int32) (a1 : Int32) (a2 : Int64) : Option (Int32 × St) :=
  ((m_X4_isMask (sI σ 0 0 (0 : Int32)) a0).bind fun v1 => (if v1 = 0 then ((m_X4_fails (sI σ 0 0 (0 : Int32)) (1 : Int32)).bind fun v4 => some (v4.1, v4.2)) else ((m_X4_isWord (sI σ 0 0 (0 : Int32)) a1).bind fun v6 => (if v6 = 0 then ((m_X4_fails (sI σ 0 0 (0 : Int32)) (1 : Int32)).bind fun v31 => some (v31.1, v31.2)) else ((lp 5000 (fun (s9 : Int32 × St) => (if (192 : Int32) ≤ s9.1 then some (.inr s9.2) else ((if (s9.1 / (64 : Int32)) = a1 then (if ((a2 >>> (((s9.1 - s9.1 / (64 : Int32) * (64 : Int32))).toInt64 &&& 63)) &&& (1 : Int64)) = (1 : Int64) then some (1 : Int32) else some (0 : Int32)) else ((m_X4_at s9.2 a0 s9.1).bind fun v21 => ((ix v21 1536).bind fun j23 => some (s9.2.1 4 j23)))).bind fun (t17 : Int32) => ((ix s9.1 192).bind fun j26 => some (.inl ((s9.1 + 1), (sI s9.2 5 j26 (nz t17)))))))) ((0 : Int32), (sI σ 0 0 (0 : Int32)))).bind fun (r10 : St) => ((m_X4_becomes r10 a0).bind fun v28 => some (v28.1, v28.2)))))))
set_option maxHeartbeats 4000000 in
set_option maxRecDepth 100000 in
theorem t_X4_bits (l : Launch) (hnt : l.stackTraces = false) {E : Ev} {base : Nat} (hE : Adr YM E base) (σ : St) (a0 : Int32) (a1 : Int32) (a2 : Int64) (r : Int32 × St) (h : m_X4_bits σ a0 a1 a2 = some r) : Ctr l yX4_bits cX4_bits 6 (some .int) 2 45 YM E base [.ref (E.2.2 0), .int a0, .int a1, .long a2] σ (.ok (some (.int r.1))) r.2 := by
  unfold m_X4_bits at h
  refine ofV 1 (by decide +kernel) rfl hE hnt (Nat.le_of_ble_eq_true rfl) rfl (fun M hN K => ?_)
  refine v_aload0 (pc := 0) K dX4_bits_0 ?_
  refine v_ic0 (pc := 1) K dX4_bits_1 ?_
  refine v_put (pc := 2) K fw_RX4_69 dX4_bits_2 rfl rfl (Nat.le_of_ble_eq_true rfl) rfl rfl ?_
  refine v_iload1 (pc := 5) K dX4_bits_5 ?_
  obtain ⟨v1, h2, h⟩ := bd h
  refine v_cS1I (pc := 6)  K ca_yX4_isMask ml_RX4_91 (t_X4_isMask _ K.nt K.ad (sI σ 0 0 (0 : Int32)) a0 v1 h2) (Nat.le_of_ble_eq_true rfl) (by decide) (by decide) dX4_bits_6 ?_
  refine v_if_eq (pc := 9) (tgt := 19) K dX4_bits_9 (by decide) (fun c3 => ?_) (fun c3 => ?_)
  · have h := it c3 h
    refine v_aload0 (pc := 19) K dX4_bits_19 ?_
    refine v_ic1 (pc := 20) K dX4_bits_20 ?_
    obtain ⟨v4, h5, h⟩ := bd h
    refine v_cV1I (pc := 21)  K ca_yX4_fails ml_RX4_105 (Nat.le_of_ble_eq_true rfl) rfl rfl (t_X4_fails _ K.nt K.ad (sI σ 0 0 (0 : Int32)) (1 : Int32) v4 h5) (Nat.le_of_ble_eq_true rfl) (by decide) (by decide) dX4_bits_21 ?_
    cases h
    exact v_iret (pc := 24) K dX4_bits_24 rfl rfl
  · have h := ie c3 h
    refine v_iload2 (pc := 12) K dX4_bits_12 ?_
    obtain ⟨v6, h7, h⟩ := bd h
    refine v_cS1I (pc := 13)  K ca_yX4_isWord ml_RX4_152 (t_X4_isWord _ K.nt K.ad (sI σ 0 0 (0 : Int32)) a1 v6 h7) (Nat.le_of_ble_eq_true rfl) (by decide) (by decide) dX4_bits_13 ?_
    refine v_if_ne (pc := 16) (tgt := 25) K dX4_bits_16 (by decide) (fun c8 => ?_) (fun c8 => ?_)
    · have h := ie c8 h
      refine v_ic0 (pc := 25) K dX4_bits_25 ?_
      refine v_istore5 (pc := 26) K dX4_bits_26 rfl (Nat.le_of_ble_eq_true rfl) ?_
      obtain ⟨r10, h12, h⟩ := bd h
      have hJ11 : V (mkX M YM E base 6 (.ok (some (.int r.1))) r.2) r10 91 [some (.ref (E.2.2 0)), some (.int a0), none, none, none, none] [] := by
        refine v_aload0 (pc := 91) K dX4_bits_91 ?_
        refine v_iload1 (pc := 92) K dX4_bits_92 ?_
        obtain ⟨v28, h29, h⟩ := bd h
        refine v_cV1I (pc := 93)  K ca_yX4_becomes ml_RX4_159 (Nat.le_of_ble_eq_true rfl) rfl rfl (t_X4_becomes _ K.nt K.ad r10 a0 v28 h29) (Nat.le_of_ble_eq_true rfl) (by decide) (by decide) dX4_bits_93 ?_
        cases h
        exact v_iret (pc := 96) K dX4_bits_96 rfl rfl
      clear h
      have hL30 := lpv h12 (fun s9 : Int32 × St => V (mkX M YM E base 6 (.ok (some (.int r.1))) r.2) s9.2 28 [some (.ref (E.2.2 0)), some (.int a0), some (.int a1), some (.long a2), none, some (.int s9.1)] [])
      refine hL30 (fun s9 o h hk => ?_)
      refine v_iload5 (pc := 28) K dX4_bits_28 ?_
      refine v_sipush (pc := 30) (v := 192) K dX4_bits_30 (by decide) ?_
      refine v_icmp_ge (pc := 33) (tgt := 91) K dX4_bits_33 (by decide) (fun c16 => ?_) (fun c16 => ?_)
      · have h := it c16 h
        have e := lx h hk
        cases e
        exact v_fg [true, true, false, false, true, false] hJ11
      · have h := ie c16 h
        refine v_aload0 (pc := 36) K dX4_bits_36 ?_
        refine v_getR (pc := 37) K fl_RX4_24 dX4_bits_37 (Nat.le_of_ble_eq_true rfl) rfl rfl ?_
        refine v_iload5 (pc := 40) K dX4_bits_40 ?_
        refine v_iload5 (pc := 42) K dX4_bits_42 ?_
        refine v_bipush (pc := 44) (v := 64) K dX4_bits_44 (by decide) ?_
        refine v_idiv (pc := 46) K dX4_bits_46 (by decide) ?_
        refine v_iload2 (pc := 47) K dX4_bits_47 ?_
        obtain ⟨t17, h19, h⟩ := bd h
        have hJ18 : V (mkX M YM E base 6 (.ok (some (.int r.1))) r.2) s9.2 84 [some (.ref (E.2.2 0)), some (.int a0), some (.int a1), some (.long a2), none, some (.int s9.1)] [.int t17, .int s9.1, .ref (E.2.2 5)] := by
          obtain ⟨j26, h27, h⟩ := bd h
          refine v_zastore (pc := 84) K dX4_bits_84 (Nat.le_of_ble_eq_true rfl) rfl h27 ?_
          refine v_iinc5 (pc := 85) (w := 1) K dX4_bits_85 rfl (Nat.le_of_ble_eq_true rfl) (by decide) ?_
          refine v_goto (pc := 88) (tgt := 28) K dX4_bits_88 (by decide) ?_
          have e := lfc h hk
          exact e
        clear h
        have h := h19
        refine v_icmp_ne (pc := 48) (tgt := 73) K dX4_bits_48 (by decide) (fun c20 => ?_) (fun c20 => ?_)
        · have h := ie c20 h
          refine v_aload0 (pc := 73) K dX4_bits_73 ?_
          refine v_getR (pc := 74) K fl_RX4_21 dX4_bits_74 (Nat.le_of_ble_eq_true rfl) rfl rfl ?_
          refine v_iload1 (pc := 77) K dX4_bits_77 ?_
          refine v_iload5 (pc := 78) K dX4_bits_78 ?_
          obtain ⟨v21, h22, h⟩ := bd h
          refine v_cS2I (pc := 80)  K ca_yX4_at ml_RX4_94 (t_X4_at _ K.nt K.ad s9.2 a0 s9.1 v21 h22) (Nat.le_of_ble_eq_true rfl) (by decide) (by decide) dX4_bits_80 ?_
          obtain ⟨j23, h24, h⟩ := bd h
          refine v_zaload (pc := 83) K dX4_bits_83 (Nat.le_of_ble_eq_true rfl) rfl h24 ?_
          cases h
          exact hJ18
        · have h := it c20 h
          refine v_lload3 (pc := 51) K dX4_bits_51 ?_
          refine v_iload5 (pc := 52) K dX4_bits_52 ?_
          refine v_bipush (pc := 54) (v := 64) K dX4_bits_54 (by decide) ?_
          refine v_irem (pc := 56) K dX4_bits_56 (by decide) ?_
          refine v_lshr (pc := 57) K dX4_bits_57 ?_
          refine v_lc1 (pc := 58) K dX4_bits_58 ?_
          refine v_land (pc := 59) K dX4_bits_59 ?_
          refine v_lc1 (pc := 60) K dX4_bits_60 ?_
          refine v_lc_ne (pc := 61) (tgt := 69) K dX4_bits_61 dX4_bits_62 (by decide) (fun c25 => ?_) (fun c25 => ?_)
          · have h := ie c25 h
            refine v_ic0 (pc := 69) K dX4_bits_69 ?_
            refine v_goto (pc := 70) (tgt := 84) K dX4_bits_70 (by decide) ?_
            cases h
            exact hJ18
          · have h := it c25 h
            refine v_ic1 (pc := 65) K dX4_bits_65 ?_
            refine v_goto (pc := 66) (tgt := 84) K dX4_bits_66 (by decide) ?_
            cases h
            exact hJ18
    · have h := it c8 h
      refine v_aload0 (pc := 19) K dX4_bits_19 ?_
      refine v_ic1 (pc := 20) K dX4_bits_20 ?_
      obtain ⟨v31, h32, h⟩ := bd h
      refine v_cV1I (pc := 21)  K ca_yX4_fails ml_RX4_105 (Nat.le_of_ble_eq_true rfl) rfl rfl (t_X4_fails _ K.nt K.ad (sI σ 0 0 (0 : Int32)) (1 : Int32) v31 h32) (Nat.le_of_ble_eq_true rfl) (by decide) (by decide) dX4_bits_21 ?_
      cases h
      exact v_iret (pc := 24) K dX4_bits_24 rfl rfl
set_option maxRecDepth 100000 in
def m_X4_join (σ : St) (a0 : Int32) (a1 : Int32) (a2 : Int32) (a3 : Int32) : Option (Int32 × St) :=
  ((m_X4_isMask (sI σ 0 0 (0 : Int32)) a0).bind fun v1 => (if v1 = 0 then ((m_X4_fails (sI σ 0 0 (0 : Int32)) (1 : Int32)).bind fun v4 => some (v4.1, v4.2)) else ((m_X4_isMask (sI σ 0 0 (0 : Int32)) a1).bind fun v6 => (if v6 = 0 then ((m_X4_fails (sI σ 0 0 (0 : Int32)) (1 : Int32)).bind fun v9 => some (v9.1, v9.2)) else ((m_X4_isMask (sI σ 0 0 (0 : Int32)) a2).bind fun v11 => (if v11 = 0 then ((m_X4_fails (sI σ 0 0 (0 : Int32)) (1 : Int32)).bind fun v53 => some (v53.1, v53.2)) else ((m_X4_isIn (sI σ 0 0 (0 : Int32)) ((a3).toInt64) (0 : Int64) (3 : Int64)).bind fun v14 => (if v14 = 0 then ((m_X4_fails (sI σ 0 0 (0 : Int32)) (2 : Int32)).bind fun v51 => some (v51.1, v51.2)) else ((lp 5000 (fun (s17 : Int32 × St) => (if (192 : Int32) ≤ s17.1 then some (.inr s17.2) else ((m_X4_at s17.2 a1 s17.1).bind fun v25 => ((ix v25 1536).bind fun j27 => ((m_X4_at s17.2 a2 s17.1).bind fun v29 => ((ix v29 1536).bind fun j31 => ((if a3 = 0 then (if s17.2.1 4 j27 = 0 then some (0 : Int32) else (if s17.2.1 4 j31 = 0 then some (0 : Int32) else some (1 : Int32))) else (if a3 = (1 : Int32) then (if s17.2.1 4 j27 = 0 then (if s17.2.1 4 j31 = 0 then some (0 : Int32) else some (1 : Int32)) else some (1 : Int32)) else (if a3 = (2 : Int32) then (if s17.2.1 4 j27 = s17.2.1 4 j31 then some (0 : Int32) else some (1 : Int32)) else (if s17.2.1 4 j27 = 0 then some (0 : Int32) else (if s17.2.1 4 j31 = 0 then some (1 : Int32) else some (0 : Int32)))))).bind fun (t33 : Int32) => ((ix s17.1 192).bind fun j46 => some (.inl ((s17.1 + 1), (sI s17.2 5 j46 (nz t33)))))))))))) ((0 : Int32), (sI σ 0 0 (0 : Int32)))).bind fun (r18 : St) => ((m_X4_becomes r18 a0).bind fun v48 => some (v48.1, v48.2)))))))))))
set_option maxHeartbeats 4000000 in
set_option maxRecDepth 100000 in
theorem t_X4_join (l : Launch) (hnt : l.stackTraces = false) {E : Ev} {base : Nat} (hE : Adr YM E base) (σ : St) (a0 : Int32) (a1 : Int32) (a2 : Int32) (a3 : Int32) (r : Int32 × St) (h : m_X4_join σ a0 a1 a2 a3 = some r) : Ctr l yX4_join cX4_join 8 (some .int) 2 45 YM E base [.ref (E.2.2 0), .int a0, .int a1, .int a2, .int a3] σ (.ok (some (.int r.1))) r.2 := by
  unfold m_X4_join at h
  refine ofV 3 (by decide +kernel) rfl hE hnt (Nat.le_of_ble_eq_true rfl) rfl (fun M hN K => ?_)
  refine v_aload0 (pc := 0) K dX4_join_0 ?_
  refine v_ic0 (pc := 1) K dX4_join_1 ?_
  refine v_put (pc := 2) K fw_RX4_69 dX4_join_2 rfl rfl (Nat.le_of_ble_eq_true rfl) rfl rfl ?_
  refine v_iload1 (pc := 5) K dX4_join_5 ?_
  obtain ⟨v1, h2, h⟩ := bd h
  refine v_cS1I (pc := 6)  K ca_yX4_isMask ml_RX4_91 (t_X4_isMask _ K.nt K.ad (sI σ 0 0 (0 : Int32)) a0 v1 h2) (Nat.le_of_ble_eq_true rfl) (by decide) (by decide) dX4_join_6 ?_
  refine v_if_eq (pc := 9) (tgt := 26) K dX4_join_9 (by decide) (fun c3 => ?_) (fun c3 => ?_)
  · have h := it c3 h
    refine v_aload0 (pc := 26) K dX4_join_26 ?_
    refine v_ic1 (pc := 27) K dX4_join_27 ?_
    obtain ⟨v4, h5, h⟩ := bd h
    refine v_cV1I (pc := 28)  K ca_yX4_fails ml_RX4_105 (Nat.le_of_ble_eq_true rfl) rfl rfl (t_X4_fails _ K.nt K.ad (sI σ 0 0 (0 : Int32)) (1 : Int32) v4 h5) (Nat.le_of_ble_eq_true rfl) (by decide) (by decide) dX4_join_28 ?_
    cases h
    exact v_iret (pc := 31) K dX4_join_31 rfl rfl
  · have h := ie c3 h
    refine v_iload2 (pc := 12) K dX4_join_12 ?_
    obtain ⟨v6, h7, h⟩ := bd h
    refine v_cS1I (pc := 13)  K ca_yX4_isMask ml_RX4_91 (t_X4_isMask _ K.nt K.ad (sI σ 0 0 (0 : Int32)) a1 v6 h7) (Nat.le_of_ble_eq_true rfl) (by decide) (by decide) dX4_join_13 ?_
    refine v_if_eq (pc := 16) (tgt := 26) K dX4_join_16 (by decide) (fun c8 => ?_) (fun c8 => ?_)
    · have h := it c8 h
      refine v_aload0 (pc := 26) K dX4_join_26 ?_
      refine v_ic1 (pc := 27) K dX4_join_27 ?_
      obtain ⟨v9, h10, h⟩ := bd h
      refine v_cV1I (pc := 28)  K ca_yX4_fails ml_RX4_105 (Nat.le_of_ble_eq_true rfl) rfl rfl (t_X4_fails _ K.nt K.ad (sI σ 0 0 (0 : Int32)) (1 : Int32) v9 h10) (Nat.le_of_ble_eq_true rfl) (by decide) (by decide) dX4_join_28 ?_
      cases h
      exact v_iret (pc := 31) K dX4_join_31 rfl rfl
    · have h := ie c8 h
      refine v_iload3 (pc := 19) K dX4_join_19 ?_
      obtain ⟨v11, h12, h⟩ := bd h
      refine v_cS1I (pc := 20)  K ca_yX4_isMask ml_RX4_91 (t_X4_isMask _ K.nt K.ad (sI σ 0 0 (0 : Int32)) a2 v11 h12) (Nat.le_of_ble_eq_true rfl) (by decide) (by decide) dX4_join_20 ?_
      refine v_if_ne (pc := 23) (tgt := 32) K dX4_join_23 (by decide) (fun c13 => ?_) (fun c13 => ?_)
      · have h := ie c13 h
        refine v_iload4 (pc := 32) K dX4_join_32 ?_
        refine v_i2l (pc := 34) K dX4_join_34 ?_
        refine v_lc0 (pc := 35) K dX4_join_35 ?_
        refine v_ldc2 (pc := 36) K dX4_join_36 cl_RX4_162 ?_
        obtain ⟨v14, h15, h⟩ := bd h
        refine v_cS3I (pc := 39)  K ca_yX4_isIn ml_RX4_76 (t_X4_isIn _ K.nt K.ad (sI σ 0 0 (0 : Int32)) ((a3).toInt64) (0 : Int64) (3 : Int64) v14 h15) (Nat.le_of_ble_eq_true rfl) (by decide) (by decide) dX4_join_39 ?_
        refine v_if_ne (pc := 42) (tgt := 51) K dX4_join_42 (by decide) (fun c16 => ?_) (fun c16 => ?_)
        · have h := ie c16 h
          refine v_ic0 (pc := 51) K dX4_join_51 ?_
          refine v_istore5 (pc := 52) K dX4_join_52 rfl (Nat.le_of_ble_eq_true rfl) ?_
          obtain ⟨r18, h20, h⟩ := bd h
          have hJ19 : V (mkX M YM E base 8 (.ok (some (.int r.1))) r.2) r18 184 [some (.ref (E.2.2 0)), some (.int a0), none, none, none, none, none, none] [] := by
            refine v_aload0 (pc := 184) K dX4_join_184 ?_
            refine v_iload1 (pc := 185) K dX4_join_185 ?_
            obtain ⟨v48, h49, h⟩ := bd h
            refine v_cV1I (pc := 186)  K ca_yX4_becomes ml_RX4_159 (Nat.le_of_ble_eq_true rfl) rfl rfl (t_X4_becomes _ K.nt K.ad r18 a0 v48 h49) (Nat.le_of_ble_eq_true rfl) (by decide) (by decide) dX4_join_186 ?_
            cases h
            exact v_iret (pc := 189) K dX4_join_189 rfl rfl
          clear h
          have hL50 := lpv h20 (fun s17 : Int32 × St => V (mkX M YM E base 8 (.ok (some (.int r.1))) r.2) s17.2 54 [some (.ref (E.2.2 0)), some (.int a0), some (.int a1), some (.int a2), some (.int a3), some (.int s17.1), none, none] [])
          refine hL50 (fun s17 o h hk => ?_)
          refine v_iload5 (pc := 54) K dX4_join_54 ?_
          refine v_sipush (pc := 56) (v := 192) K dX4_join_56 (by decide) ?_
          refine v_icmp_ge (pc := 59) (tgt := 184) K dX4_join_59 (by decide) (fun c24 => ?_) (fun c24 => ?_)
          · have h := it c24 h
            have e := lx h hk
            cases e
            exact v_fg [true, true, false, false, false, false, true, true] hJ19
          · have h := ie c24 h
            refine v_aload0 (pc := 62) K dX4_join_62 ?_
            refine v_getR (pc := 63) K fl_RX4_21 dX4_join_63 (Nat.le_of_ble_eq_true rfl) rfl rfl ?_
            refine v_iload2 (pc := 66) K dX4_join_66 ?_
            refine v_iload5 (pc := 67) K dX4_join_67 ?_
            obtain ⟨v25, h26, h⟩ := bd h
            refine v_cS2I (pc := 69)  K ca_yX4_at ml_RX4_94 (t_X4_at _ K.nt K.ad s17.2 a1 s17.1 v25 h26) (Nat.le_of_ble_eq_true rfl) (by decide) (by decide) dX4_join_69 ?_
            obtain ⟨j27, h28, h⟩ := bd h
            refine v_zaload (pc := 72) K dX4_join_72 (Nat.le_of_ble_eq_true rfl) rfl h28 ?_
            refine v_istore6 (pc := 73) K dX4_join_73 rfl (Nat.le_of_ble_eq_true rfl) ?_
            refine v_aload0 (pc := 75) K dX4_join_75 ?_
            refine v_getR (pc := 76) K fl_RX4_21 dX4_join_76 (Nat.le_of_ble_eq_true rfl) rfl rfl ?_
            refine v_iload3 (pc := 79) K dX4_join_79 ?_
            refine v_iload5 (pc := 80) K dX4_join_80 ?_
            obtain ⟨v29, h30, h⟩ := bd h
            refine v_cS2I (pc := 82)  K ca_yX4_at ml_RX4_94 (t_X4_at _ K.nt K.ad s17.2 a2 s17.1 v29 h30) (Nat.le_of_ble_eq_true rfl) (by decide) (by decide) dX4_join_82 ?_
            obtain ⟨j31, h32, h⟩ := bd h
            refine v_zaload (pc := 85) K dX4_join_85 (Nat.le_of_ble_eq_true rfl) rfl h32 ?_
            refine v_istore7 (pc := 86) K dX4_join_86 rfl (Nat.le_of_ble_eq_true rfl) ?_
            refine v_aload0 (pc := 88) K dX4_join_88 ?_
            refine v_getR (pc := 89) K fl_RX4_24 dX4_join_89 (Nat.le_of_ble_eq_true rfl) rfl rfl ?_
            refine v_iload5 (pc := 92) K dX4_join_92 ?_
            refine v_iload4 (pc := 94) K dX4_join_94 ?_
            obtain ⟨t33, h35, h⟩ := bd h
            have hJ34 : V (mkX M YM E base 8 (.ok (some (.int r.1))) r.2) s17.2 177 [some (.ref (E.2.2 0)), some (.int a0), some (.int a1), some (.int a2), some (.int a3), some (.int s17.1), none, none] [.int t33, .int s17.1, .ref (E.2.2 5)] := by
              obtain ⟨j46, h47, h⟩ := bd h
              refine v_zastore (pc := 177) K dX4_join_177 (Nat.le_of_ble_eq_true rfl) rfl h47 ?_
              refine v_iinc5 (pc := 178) (w := 1) K dX4_join_178 rfl (Nat.le_of_ble_eq_true rfl) (by decide) ?_
              refine v_goto (pc := 181) (tgt := 54) K dX4_join_181 (by decide) ?_
              have e := lfc h hk
              exact e
            clear h
            have h := h35
            refine v_if_ne (pc := 96) (tgt := 117) K dX4_join_96 (by decide) (fun c36 => ?_) (fun c36 => ?_)
            · have h := ie c36 h
              refine v_iload4 (pc := 117) K dX4_join_117 ?_
              refine v_ic1 (pc := 119) K dX4_join_119 ?_
              refine v_icmp_ne (pc := 120) (tgt := 141) K dX4_join_120 (by decide) (fun c37 => ?_) (fun c37 => ?_)
              · have h := ie c37 h
                refine v_iload4 (pc := 141) K dX4_join_141 ?_
                refine v_ic2 (pc := 143) K dX4_join_143 ?_
                refine v_icmp_ne (pc := 144) (tgt := 162) K dX4_join_144 (by decide) (fun c38 => ?_) (fun c38 => ?_)
                · have h := ie c38 h
                  refine v_iload6 (pc := 162) K dX4_join_162 ?_
                  refine v_if_eq (pc := 164) (tgt := 176) K dX4_join_164 (by decide) (fun c39 => ?_) (fun c39 => ?_)
                  · have h := it c39 h
                    refine v_ic0 (pc := 176) K dX4_join_176 ?_
                    cases h
                    exact (v_fg [true, true, true, true, true, true, false, false] hJ34)
                  · have h := ie c39 h
                    refine v_iload7 (pc := 167) K dX4_join_167 ?_
                    refine v_if_ne (pc := 169) (tgt := 176) K dX4_join_169 (by decide) (fun c40 => ?_) (fun c40 => ?_)
                    · have h := ie c40 h
                      refine v_ic0 (pc := 176) K dX4_join_176 ?_
                      cases h
                      exact (v_fg [true, true, true, true, true, true, false, false] hJ34)
                    · have h := it c40 h
                      refine v_ic1 (pc := 172) K dX4_join_172 ?_
                      refine v_goto (pc := 173) (tgt := 177) K dX4_join_173 (by decide) ?_
                      cases h
                      exact (v_fg [true, true, true, true, true, true, false, false] hJ34)
                · have h := it c38 h
                  refine v_iload6 (pc := 147) K dX4_join_147 ?_
                  refine v_iload7 (pc := 149) K dX4_join_149 ?_
                  refine v_icmp_eq (pc := 151) (tgt := 158) K dX4_join_151 (by decide) (fun c41 => ?_) (fun c41 => ?_)
                  · have h := it c41 h
                    refine v_ic0 (pc := 158) K dX4_join_158 ?_
                    refine v_goto (pc := 159) (tgt := 177) K dX4_join_159 (by decide) ?_
                    cases h
                    exact (v_fg [true, true, true, true, true, true, false, false] hJ34)
                  · have h := ie c41 h
                    refine v_ic1 (pc := 154) K dX4_join_154 ?_
                    refine v_goto (pc := 155) (tgt := 177) K dX4_join_155 (by decide) ?_
                    cases h
                    exact (v_fg [true, true, true, true, true, true, false, false] hJ34)
              · have h := it c37 h
                refine v_iload6 (pc := 123) K dX4_join_123 ?_
                refine v_if_ne (pc := 125) (tgt := 133) K dX4_join_125 (by decide) (fun c42 => ?_) (fun c42 => ?_)
                · have h := ie c42 h
                  refine v_ic1 (pc := 133) K dX4_join_133 ?_
                  refine v_goto (pc := 134) (tgt := 177) K dX4_join_134 (by decide) ?_
                  cases h
                  exact (v_fg [true, true, true, true, true, true, false, false] hJ34)
                · have h := it c42 h
                  refine v_iload7 (pc := 128) K dX4_join_128 ?_
                  refine v_if_eq (pc := 130) (tgt := 137) K dX4_join_130 (by decide) (fun c43 => ?_) (fun c43 => ?_)
                  · have h := it c43 h
                    refine v_ic0 (pc := 137) K dX4_join_137 ?_
                    refine v_goto (pc := 138) (tgt := 177) K dX4_join_138 (by decide) ?_
                    cases h
                    exact (v_fg [true, true, true, true, true, true, false, false] hJ34)
                  · have h := ie c43 h
                    refine v_ic1 (pc := 133) K dX4_join_133 ?_
                    refine v_goto (pc := 134) (tgt := 177) K dX4_join_134 (by decide) ?_
                    cases h
                    exact (v_fg [true, true, true, true, true, true, false, false] hJ34)
            · have h := it c36 h
              refine v_iload6 (pc := 99) K dX4_join_99 ?_
              refine v_if_eq (pc := 101) (tgt := 113) K dX4_join_101 (by decide) (fun c44 => ?_) (fun c44 => ?_)
              · have h := it c44 h
                refine v_ic0 (pc := 113) K dX4_join_113 ?_
                refine v_goto (pc := 114) (tgt := 177) K dX4_join_114 (by decide) ?_
                cases h
                exact (v_fg [true, true, true, true, true, true, false, false] hJ34)
              · have h := ie c44 h
                refine v_iload7 (pc := 104) K dX4_join_104 ?_
                refine v_if_eq (pc := 106) (tgt := 113) K dX4_join_106 (by decide) (fun c45 => ?_) (fun c45 => ?_)
                · have h := it c45 h
                  refine v_ic0 (pc := 113) K dX4_join_113 ?_
                  refine v_goto (pc := 114) (tgt := 177) K dX4_join_114 (by decide) ?_
                  cases h
                  exact (v_fg [true, true, true, true, true, true, false, false] hJ34)
                · have h := ie c45 h
                  refine v_ic1 (pc := 109) K dX4_join_109 ?_
                  refine v_goto (pc := 110) (tgt := 177) K dX4_join_110 (by decide) ?_
                  cases h
                  exact (v_fg [true, true, true, true, true, true, false, false] hJ34)
        · have h := it c16 h
          refine v_aload0 (pc := 45) K dX4_join_45 ?_
          refine v_ic2 (pc := 46) K dX4_join_46 ?_
          obtain ⟨v51, h52, h⟩ := bd h
          refine v_cV1I (pc := 47)  K ca_yX4_fails ml_RX4_105 (Nat.le_of_ble_eq_true rfl) rfl rfl (t_X4_fails _ K.nt K.ad (sI σ 0 0 (0 : Int32)) (2 : Int32) v51 h52) (Nat.le_of_ble_eq_true rfl) (by decide) (by decide) dX4_join_47 ?_
          cases h
          exact v_iret (pc := 50) K dX4_join_50 rfl rfl
      · have h := it c13 h
        refine v_aload0 (pc := 26) K dX4_join_26 ?_
        refine v_ic1 (pc := 27) K dX4_join_27 ?_
        obtain ⟨v53, h54, h⟩ := bd h
        refine v_cV1I (pc := 28)  K ca_yX4_fails ml_RX4_105 (Nat.le_of_ble_eq_true rfl) rfl rfl (t_X4_fails _ K.nt K.ad (sI σ 0 0 (0 : Int32)) (1 : Int32) v53 h54) (Nat.le_of_ble_eq_true rfl) (by decide) (by decide) dX4_join_28 ?_
        cases h
        exact v_iret (pc := 31) K dX4_join_31 rfl rfl
set_option maxRecDepth 100000 in
def m_X4_turn (σ : St) (a0 : Int32) (a1 : Int32) : Option (Int32 × St) :=
  ((m_X4_isMask (sI σ 0 0 (0 : Int32)) a0).bind fun v1 => (if v1 = 0 then ((m_X4_fails (sI σ 0 0 (0 : Int32)) (1 : Int32)).bind fun v4 => some (v4.1, v4.2)) else ((m_X4_isMask (sI σ 0 0 (0 : Int32)) a1).bind fun v6 => (if v6 = 0 then ((m_X4_fails (sI σ 0 0 (0 : Int32)) (1 : Int32)).bind fun v30 => some (v30.1, v30.2)) else ((lp 5000 (fun (s9 : Int32 × St) => (if (192 : Int32) ≤ s9.1 then some (.inr s9.2) else ((m_X4_at s9.2 a1 s9.1).bind fun v17 => ((ix v17 1536).bind fun j19 => ((if s9.2.1 4 j19 = 0 then some (1 : Int32) else some (0 : Int32)).bind fun (t21 : Int32) => ((ix s9.1 192).bind fun j25 => some (.inl ((s9.1 + 1), (sI s9.2 5 j25 (nz t21)))))))))) ((0 : Int32), (sI σ 0 0 (0 : Int32)))).bind fun (r10 : St) => ((m_X4_becomes r10 a0).bind fun v27 => some (v27.1, v27.2)))))))
set_option maxHeartbeats 4000000 in
set_option maxRecDepth 100000 in
theorem t_X4_turn (l : Launch) (hnt : l.stackTraces = false) {E : Ev} {base : Nat} (hE : Adr YM E base) (σ : St) (a0 : Int32) (a1 : Int32) (r : Int32 × St) (h : m_X4_turn σ a0 a1 = some r) : Ctr l yX4_turn cX4_turn 4 (some .int) 2 45 YM E base [.ref (E.2.2 0), .int a0, .int a1] σ (.ok (some (.int r.1))) r.2 := by
  unfold m_X4_turn at h
  refine ofV 1 (by decide +kernel) rfl hE hnt (Nat.le_of_ble_eq_true rfl) rfl (fun M hN K => ?_)
  refine v_aload0 (pc := 0) K dX4_turn_0 ?_
  refine v_ic0 (pc := 1) K dX4_turn_1 ?_
  refine v_put (pc := 2) K fw_RX4_69 dX4_turn_2 rfl rfl (Nat.le_of_ble_eq_true rfl) rfl rfl ?_
  refine v_iload1 (pc := 5) K dX4_turn_5 ?_
  obtain ⟨v1, h2, h⟩ := bd h
  refine v_cS1I (pc := 6)  K ca_yX4_isMask ml_RX4_91 (t_X4_isMask _ K.nt K.ad (sI σ 0 0 (0 : Int32)) a0 v1 h2) (Nat.le_of_ble_eq_true rfl) (by decide) (by decide) dX4_turn_6 ?_
  refine v_if_eq (pc := 9) (tgt := 19) K dX4_turn_9 (by decide) (fun c3 => ?_) (fun c3 => ?_)
  · have h := it c3 h
    refine v_aload0 (pc := 19) K dX4_turn_19 ?_
    refine v_ic1 (pc := 20) K dX4_turn_20 ?_
    obtain ⟨v4, h5, h⟩ := bd h
    refine v_cV1I (pc := 21)  K ca_yX4_fails ml_RX4_105 (Nat.le_of_ble_eq_true rfl) rfl rfl (t_X4_fails _ K.nt K.ad (sI σ 0 0 (0 : Int32)) (1 : Int32) v4 h5) (Nat.le_of_ble_eq_true rfl) (by decide) (by decide) dX4_turn_21 ?_
    cases h
    exact v_iret (pc := 24) K dX4_turn_24 rfl rfl
  · have h := ie c3 h
    refine v_iload2 (pc := 12) K dX4_turn_12 ?_
    obtain ⟨v6, h7, h⟩ := bd h
    refine v_cS1I (pc := 13)  K ca_yX4_isMask ml_RX4_91 (t_X4_isMask _ K.nt K.ad (sI σ 0 0 (0 : Int32)) a1 v6 h7) (Nat.le_of_ble_eq_true rfl) (by decide) (by decide) dX4_turn_13 ?_
    refine v_if_ne (pc := 16) (tgt := 25) K dX4_turn_16 (by decide) (fun c8 => ?_) (fun c8 => ?_)
    · have h := ie c8 h
      refine v_ic0 (pc := 25) K dX4_turn_25 ?_
      refine v_istore3 (pc := 26) K dX4_turn_26 rfl (Nat.le_of_ble_eq_true rfl) ?_
      obtain ⟨r10, h12, h⟩ := bd h
      have hJ11 : V (mkX M YM E base 4 (.ok (some (.int r.1))) r.2) r10 64 [some (.ref (E.2.2 0)), some (.int a0), none, none] [] := by
        refine v_aload0 (pc := 64) K dX4_turn_64 ?_
        refine v_iload1 (pc := 65) K dX4_turn_65 ?_
        obtain ⟨v27, h28, h⟩ := bd h
        refine v_cV1I (pc := 66)  K ca_yX4_becomes ml_RX4_159 (Nat.le_of_ble_eq_true rfl) rfl rfl (t_X4_becomes _ K.nt K.ad r10 a0 v27 h28) (Nat.le_of_ble_eq_true rfl) (by decide) (by decide) dX4_turn_66 ?_
        cases h
        exact v_iret (pc := 69) K dX4_turn_69 rfl rfl
      clear h
      have hL29 := lpv h12 (fun s9 : Int32 × St => V (mkX M YM E base 4 (.ok (some (.int r.1))) r.2) s9.2 27 [some (.ref (E.2.2 0)), some (.int a0), some (.int a1), some (.int s9.1)] [])
      refine hL29 (fun s9 o h hk => ?_)
      refine v_iload3 (pc := 27) K dX4_turn_27 ?_
      refine v_sipush (pc := 28) (v := 192) K dX4_turn_28 (by decide) ?_
      refine v_icmp_ge (pc := 31) (tgt := 64) K dX4_turn_31 (by decide) (fun c16 => ?_) (fun c16 => ?_)
      · have h := it c16 h
        have e := lx h hk
        cases e
        exact v_fg [true, true, false, false] hJ11
      · have h := ie c16 h
        refine v_aload0 (pc := 34) K dX4_turn_34 ?_
        refine v_getR (pc := 35) K fl_RX4_24 dX4_turn_35 (Nat.le_of_ble_eq_true rfl) rfl rfl ?_
        refine v_iload3 (pc := 38) K dX4_turn_38 ?_
        refine v_aload0 (pc := 39) K dX4_turn_39 ?_
        refine v_getR (pc := 40) K fl_RX4_21 dX4_turn_40 (Nat.le_of_ble_eq_true rfl) rfl rfl ?_
        refine v_iload2 (pc := 43) K dX4_turn_43 ?_
        refine v_iload3 (pc := 44) K dX4_turn_44 ?_
        obtain ⟨v17, h18, h⟩ := bd h
        refine v_cS2I (pc := 45)  K ca_yX4_at ml_RX4_94 (t_X4_at _ K.nt K.ad s9.2 a1 s9.1 v17 h18) (Nat.le_of_ble_eq_true rfl) (by decide) (by decide) dX4_turn_45 ?_
        obtain ⟨j19, h20, h⟩ := bd h
        refine v_zaload (pc := 48) K dX4_turn_48 (Nat.le_of_ble_eq_true rfl) rfl h20 ?_
        obtain ⟨t21, h23, h⟩ := bd h
        have hJ22 : V (mkX M YM E base 4 (.ok (some (.int r.1))) r.2) s9.2 57 [some (.ref (E.2.2 0)), some (.int a0), some (.int a1), some (.int s9.1)] [.int t21, .int s9.1, .ref (E.2.2 5)] := by
          obtain ⟨j25, h26, h⟩ := bd h
          refine v_zastore (pc := 57) K dX4_turn_57 (Nat.le_of_ble_eq_true rfl) rfl h26 ?_
          refine v_iinc3 (pc := 58) (w := 1) K dX4_turn_58 rfl (Nat.le_of_ble_eq_true rfl) (by decide) ?_
          refine v_goto (pc := 61) (tgt := 27) K dX4_turn_61 (by decide) ?_
          have e := lfc h hk
          exact e
        clear h
        have h := h23
        refine v_if_ne (pc := 49) (tgt := 56) K dX4_turn_49 (by decide) (fun c24 => ?_) (fun c24 => ?_)
        · have h := ie c24 h
          refine v_ic0 (pc := 56) K dX4_turn_56 ?_
          cases h
          exact hJ22
        · have h := it c24 h
          refine v_ic1 (pc := 52) K dX4_turn_52 ?_
          refine v_goto (pc := 53) (tgt := 57) K dX4_turn_53 (by decide) ?_
          cases h
          exact hJ22
    · have h := it c8 h
      refine v_aload0 (pc := 19) K dX4_turn_19 ?_
      refine v_ic1 (pc := 20) K dX4_turn_20 ?_
      obtain ⟨v30, h31, h⟩ := bd h
      refine v_cV1I (pc := 21)  K ca_yX4_fails ml_RX4_105 (Nat.le_of_ble_eq_true rfl) rfl rfl (t_X4_fails _ K.nt K.ad (sI σ 0 0 (0 : Int32)) (1 : Int32) v30 h31) (Nat.le_of_ble_eq_true rfl) (by decide) (by decide) dX4_turn_21 ?_
      cases h
      exact v_iret (pc := 24) K dX4_turn_24 rfl rfl
set_option maxRecDepth 100000 in
def m_X4_areIn (σ : St) (a0 : Int32) (a1 : Int32) : Option (Int32) :=
  ((m_X4_isColumn σ a0).bind fun v1 => ((if v1 = 0 then some (0 : Int32) else ((m_X4_isMask σ a1).bind fun v7 => (if v7 = 0 then some (0 : Int32) else some (1 : Int32)))).bind fun (t3 : Int32) => some (nz t3)))
set_option maxHeartbeats 4000000 in
set_option maxRecDepth 100000 in
theorem t_X4_areIn (l : Launch) (hnt : l.stackTraces = false) {E : Ev} {base : Nat} (hE : Adr YM E base) (σ : St) (a0 : Int32) (a1 : Int32) (r : Int32) (h : m_X4_areIn σ a0 a1 = some r) : Ctr l yX4_areIn cX4_areIn 3 (some .boolean) 2 46 YM E base [.ref (E.2.2 0), .int a0, .int a1] σ (.ok (some (.int r))) σ := by
  unfold m_X4_areIn at h
  refine ofV 0 (by decide +kernel) rfl hE hnt (Nat.le_of_ble_eq_true rfl) rfl (fun M hN K => ?_)
  refine v_aload0 (pc := 0) K dX4_areIn_0 ?_
  refine v_iload1 (pc := 1) K dX4_areIn_1 ?_
  obtain ⟨v1, h2, h⟩ := bd h
  refine v_cV1I (pc := 2)  K ca_yX4_isColumn ml_RX4_87 (Nat.le_of_ble_eq_true rfl) rfl rfl (t_X4_isColumn _ K.nt K.ad σ a0 v1 h2) (Nat.le_of_ble_eq_true rfl) (by decide) (by decide) dX4_areIn_2 ?_
  obtain ⟨t3, h5, h⟩ := bd h
  have hJ4 : V (mkX M YM E base 3 (.ok (some (.int r))) σ) σ 20 [none, none, none] [.int t3] := by
    cases h
    exact v_zret (pc := 20) K dX4_areIn_20 rfl rfl
  clear h
  have h := h5
  refine v_if_eq (pc := 5) (tgt := 19) K dX4_areIn_5 (by decide) (fun c6 => ?_) (fun c6 => ?_)
  · have h := it c6 h
    refine v_ic0 (pc := 19) K dX4_areIn_19 ?_
    cases h
    exact (v_fg [false, false, false] hJ4)
  · have h := ie c6 h
    refine v_iload2 (pc := 8) K dX4_areIn_8 ?_
    obtain ⟨v7, h8, h⟩ := bd h
    refine v_cS1I (pc := 9)  K ca_yX4_isMask ml_RX4_91 (t_X4_isMask _ K.nt K.ad σ a1 v7 h8) (Nat.le_of_ble_eq_true rfl) (by decide) (by decide) dX4_areIn_9 ?_
    refine v_if_eq (pc := 12) (tgt := 19) K dX4_areIn_12 (by decide) (fun c9 => ?_) (fun c9 => ?_)
    · have h := it c9 h
      refine v_ic0 (pc := 19) K dX4_areIn_19 ?_
      cases h
      exact (v_fg [false, false, false] hJ4)
    · have h := ie c9 h
      refine v_ic1 (pc := 15) K dX4_areIn_15 ?_
      refine v_goto (pc := 16) (tgt := 20) K dX4_areIn_16 (by decide) ?_
      cases h
      exact (v_fg [false, false, false] hJ4)
set_option maxRecDepth 100000 in
def m_X4_hasUnder (σ : St) (a0 : Int32) (a1 : Int32) (a2 : Int32) : Option (Int32) :=
  ((m_X4_at σ a2 a1).bind fun v1 => ((ix v1 1536).bind fun j3 => ((if σ.1 4 j3 = 0 then some (0 : Int32) else ((m_X4_at σ a0 a1).bind fun v9 => ((ix v9 1152).bind fun j11 => (if σ.1 2 j11 = 0 then some (0 : Int32) else some (1 : Int32))))).bind fun (t5 : Int32) => some (nz t5))))
set_option maxHeartbeats 4000000 in
set_option maxRecDepth 100000 in
theorem t_X4_hasUnder (l : Launch) (hnt : l.stackTraces = false) {E : Ev} {base : Nat} (hE : Adr YM E base) (σ : St) (a0 : Int32) (a1 : Int32) (a2 : Int32) (r : Int32) (h : m_X4_hasUnder σ a0 a1 a2 = some r) : Ctr l yX4_hasUnder cX4_hasUnder 4 (some .boolean) 1 21 YM E base [.ref (E.2.2 0), .int a0, .int a1, .int a2] σ (.ok (some (.int r))) σ := by
  unfold m_X4_hasUnder at h
  refine ofV 0 (by decide +kernel) rfl hE hnt (Nat.le_of_ble_eq_true rfl) rfl (fun M hN K => ?_)
  refine v_aload0 (pc := 0) K dX4_hasUnder_0 ?_
  refine v_getR (pc := 1) K fl_RX4_21 dX4_hasUnder_1 (Nat.le_of_ble_eq_true rfl) rfl rfl ?_
  refine v_iload3 (pc := 4) K dX4_hasUnder_4 ?_
  refine v_iload2 (pc := 5) K dX4_hasUnder_5 ?_
  obtain ⟨v1, h2, h⟩ := bd h
  refine v_cS2I (pc := 6)  K ca_yX4_at ml_RX4_94 (t_X4_at _ K.nt K.ad σ a2 a1 v1 h2) (Nat.le_of_ble_eq_true rfl) (by decide) (by decide) dX4_hasUnder_6 ?_
  obtain ⟨j3, h4, h⟩ := bd h
  refine v_zaload (pc := 9) K dX4_hasUnder_9 (Nat.le_of_ble_eq_true rfl) rfl h4 ?_
  obtain ⟨t5, h7, h⟩ := bd h
  have hJ6 : V (mkX M YM E base 4 (.ok (some (.int r))) σ) σ 31 [none, none, none, none] [.int t5] := by
    cases h
    exact v_zret (pc := 31) K dX4_hasUnder_31 rfl rfl
  clear h
  have h := h7
  refine v_if_eq (pc := 10) (tgt := 30) K dX4_hasUnder_10 (by decide) (fun c8 => ?_) (fun c8 => ?_)
  · have h := it c8 h
    refine v_ic0 (pc := 30) K dX4_hasUnder_30 ?_
    cases h
    exact (v_fg [false, false, false, false] hJ6)
  · have h := ie c8 h
    refine v_aload0 (pc := 13) K dX4_hasUnder_13 ?_
    refine v_getR (pc := 14) K fl_RX4_13 dX4_hasUnder_14 (Nat.le_of_ble_eq_true rfl) rfl rfl ?_
    refine v_iload1 (pc := 17) K dX4_hasUnder_17 ?_
    refine v_iload2 (pc := 18) K dX4_hasUnder_18 ?_
    obtain ⟨v9, h10, h⟩ := bd h
    refine v_cS2I (pc := 19)  K ca_yX4_at ml_RX4_94 (t_X4_at _ K.nt K.ad σ a0 a1 v9 h10) (Nat.le_of_ble_eq_true rfl) (by decide) (by decide) dX4_hasUnder_19 ?_
    obtain ⟨j11, h12, h⟩ := bd h
    refine v_zaload (pc := 22) K dX4_hasUnder_22 (Nat.le_of_ble_eq_true rfl) rfl h12 ?_
    refine v_if_eq (pc := 23) (tgt := 30) K dX4_hasUnder_23 (by decide) (fun c13 => ?_) (fun c13 => ?_)
    · have h := it c13 h
      refine v_ic0 (pc := 30) K dX4_hasUnder_30 ?_
      cases h
      exact (v_fg [false, false, false, false] hJ6)
    · have h := ie c13 h
      refine v_ic1 (pc := 26) K dX4_hasUnder_26 ?_
      refine v_goto (pc := 27) (tgt := 31) K dX4_hasUnder_27 (by decide) ?_
      cases h
      exact (v_fg [false, false, false, false] hJ6)
set_option maxRecDepth 100000 in
def m_X4_isSo (σ : St) (a0 : Int64) (a1 : Int32) (a2 : Int64) : Option (Int32) :=
  (if a1 = 0 then ((if a2 ≤ a0 then some (0 : Int32) else some (1 : Int32)).bind fun (t2 : Int32) => some (nz t2)) else (if a1 = 1 then ((if a2 < a0 then some (0 : Int32) else some (1 : Int32)).bind fun (t7 : Int32) => some (nz t7)) else (if a1 = 2 then ((if a0 = a2 then some (1 : Int32) else some (0 : Int32)).bind fun (t12 : Int32) => some (nz t12)) else (if a1 = 3 then ((if a0 = a2 then some (0 : Int32) else some (1 : Int32)).bind fun (t17 : Int32) => some (nz t17)) else (if a1 = 4 then ((if a0 < a2 then some (0 : Int32) else some (1 : Int32)).bind fun (t22 : Int32) => some (nz t22)) else ((if a0 ≤ a2 then some (0 : Int32) else some (1 : Int32)).bind fun (t26 : Int32) => some (nz t26)))))))
set_option maxHeartbeats 4000000 in
set_option maxRecDepth 100000 in
theorem t_X4_isSo (l : Launch) (hnt : l.stackTraces = false) {E : Ev} {base : Nat} (hE : Adr YM E base) (σ : St) (a0 : Int64) (a1 : Int32) (a2 : Int64) (r : Int32) (h : m_X4_isSo σ a0 a1 a2 = some r) : Ctr l yX4_isSo cX4_isSo 5 (some .boolean) 0 0 YM E base [.long a0, .int a1, .long a2] σ (.ok (some (.int r))) σ := by
  unfold m_X4_isSo at h
  refine ofV 0 (by decide +kernel) rfl hE hnt (Nat.le_of_ble_eq_true rfl) rfl (fun M hN K => ?_)
  refine v_iload2 (pc := 0) K dX4_isSo_0 ?_
  by_cases c1 : a1 = 0
  · have h := it c1 h
    refine v_tsIn (pc := 1) (k := 0) (tgt := 36) K dX4_isSo_1 (by rw [c1]; rfl) (by decide) rfl (by decide) ?_
    refine v_lload0 (pc := 36) K dX4_isSo_36 ?_
    refine v_lload3 (pc := 37) K dX4_isSo_37 ?_
    obtain ⟨t2, h4, h⟩ := bd h
    have hJ3 : V (mkX M YM E base 5 (.ok (some (.int r))) σ) σ 47 [none, none, none, none, none] [.int t2] := by
      cases h
      exact v_zret (pc := 47) K dX4_isSo_47 rfl rfl
    clear h
    have h := h4
    refine v_lc_ge (pc := 38) (tgt := 46) K dX4_isSo_38 dX4_isSo_39 (by decide) (fun c5 => ?_) (fun c5 => ?_)
    · have h := it c5 h
      refine v_ic0 (pc := 46) K dX4_isSo_46 ?_
      cases h
      exact (v_fg [false, true, false, false, true] hJ3)
    · have h := ie c5 h
      refine v_ic1 (pc := 42) K dX4_isSo_42 ?_
      refine v_goto (pc := 43) (tgt := 47) K dX4_isSo_43 (by decide) ?_
      cases h
      exact (v_fg [false, true, false, false, true] hJ3)
  have h := ie c1 h
  by_cases c6 : a1 = 1
  · have h := it c6 h
    refine v_tsIn (pc := 1) (k := 1) (tgt := 48) K dX4_isSo_1 (by rw [c6]; rfl) (by decide) rfl (by decide) ?_
    refine v_lload0 (pc := 48) K dX4_isSo_48 ?_
    refine v_lload3 (pc := 49) K dX4_isSo_49 ?_
    obtain ⟨t7, h9, h⟩ := bd h
    have hJ8 : V (mkX M YM E base 5 (.ok (some (.int r))) σ) σ 59 [none, none, none, none, none] [.int t7] := by
      cases h
      exact v_zret (pc := 59) K dX4_isSo_59 rfl rfl
    clear h
    have h := h9
    refine v_lc_gt (pc := 50) (tgt := 58) K dX4_isSo_50 dX4_isSo_51 (by decide) (fun c10 => ?_) (fun c10 => ?_)
    · have h := it c10 h
      refine v_ic0 (pc := 58) K dX4_isSo_58 ?_
      cases h
      exact (v_fg [false, true, false, false, true] hJ8)
    · have h := ie c10 h
      refine v_ic1 (pc := 54) K dX4_isSo_54 ?_
      refine v_goto (pc := 55) (tgt := 59) K dX4_isSo_55 (by decide) ?_
      cases h
      exact (v_fg [false, true, false, false, true] hJ8)
  have h := ie c6 h
  by_cases c11 : a1 = 2
  · have h := it c11 h
    refine v_tsIn (pc := 1) (k := 2) (tgt := 60) K dX4_isSo_1 (by rw [c11]; rfl) (by decide) rfl (by decide) ?_
    refine v_lload0 (pc := 60) K dX4_isSo_60 ?_
    refine v_lload3 (pc := 61) K dX4_isSo_61 ?_
    obtain ⟨t12, h14, h⟩ := bd h
    have hJ13 : V (mkX M YM E base 5 (.ok (some (.int r))) σ) σ 71 [none, none, none, none, none] [.int t12] := by
      cases h
      exact v_zret (pc := 71) K dX4_isSo_71 rfl rfl
    clear h
    have h := h14
    refine v_lc_ne (pc := 62) (tgt := 70) K dX4_isSo_62 dX4_isSo_63 (by decide) (fun c15 => ?_) (fun c15 => ?_)
    · have h := ie c15 h
      refine v_ic0 (pc := 70) K dX4_isSo_70 ?_
      cases h
      exact (v_fg [false, true, false, false, true] hJ13)
    · have h := it c15 h
      refine v_ic1 (pc := 66) K dX4_isSo_66 ?_
      refine v_goto (pc := 67) (tgt := 71) K dX4_isSo_67 (by decide) ?_
      cases h
      exact (v_fg [false, true, false, false, true] hJ13)
  have h := ie c11 h
  by_cases c16 : a1 = 3
  · have h := it c16 h
    refine v_tsIn (pc := 1) (k := 3) (tgt := 72) K dX4_isSo_1 (by rw [c16]; rfl) (by decide) rfl (by decide) ?_
    refine v_lload0 (pc := 72) K dX4_isSo_72 ?_
    refine v_lload3 (pc := 73) K dX4_isSo_73 ?_
    obtain ⟨t17, h19, h⟩ := bd h
    have hJ18 : V (mkX M YM E base 5 (.ok (some (.int r))) σ) σ 83 [none, none, none, none, none] [.int t17] := by
      cases h
      exact v_zret (pc := 83) K dX4_isSo_83 rfl rfl
    clear h
    have h := h19
    refine v_lc_eq (pc := 74) (tgt := 82) K dX4_isSo_74 dX4_isSo_75 (by decide) (fun c20 => ?_) (fun c20 => ?_)
    · have h := it c20 h
      refine v_ic0 (pc := 82) K dX4_isSo_82 ?_
      cases h
      exact (v_fg [false, true, false, false, true] hJ18)
    · have h := ie c20 h
      refine v_ic1 (pc := 78) K dX4_isSo_78 ?_
      refine v_goto (pc := 79) (tgt := 83) K dX4_isSo_79 (by decide) ?_
      cases h
      exact (v_fg [false, true, false, false, true] hJ18)
  have h := ie c16 h
  by_cases c21 : a1 = 4
  · have h := it c21 h
    refine v_tsIn (pc := 1) (k := 4) (tgt := 84) K dX4_isSo_1 (by rw [c21]; rfl) (by decide) rfl (by decide) ?_
    refine v_lload0 (pc := 84) K dX4_isSo_84 ?_
    refine v_lload3 (pc := 85) K dX4_isSo_85 ?_
    obtain ⟨t22, h24, h⟩ := bd h
    have hJ23 : V (mkX M YM E base 5 (.ok (some (.int r))) σ) σ 95 [none, none, none, none, none] [.int t22] := by
      cases h
      exact v_zret (pc := 95) K dX4_isSo_95 rfl rfl
    clear h
    have h := h24
    refine v_lc_lt (pc := 86) (tgt := 94) K dX4_isSo_86 dX4_isSo_87 (by decide) (fun c25 => ?_) (fun c25 => ?_)
    · have h := it c25 h
      refine v_ic0 (pc := 94) K dX4_isSo_94 ?_
      cases h
      exact (v_fg [false, true, false, false, true] hJ23)
    · have h := ie c25 h
      refine v_ic1 (pc := 90) K dX4_isSo_90 ?_
      refine v_goto (pc := 91) (tgt := 95) K dX4_isSo_91 (by decide) ?_
      cases h
      exact (v_fg [false, true, false, false, true] hJ23)
  have h := ie c21 h
  refine v_tsOut (pc := 1) (tgt := 96) K dX4_isSo_1 (ts_out 5 (by decide) (fun k hk => by match k, hk with | 0, _ => exact fun q => c1 q | 1, _ => exact fun q => c6 q | 2, _ => exact fun q => c11 q | 3, _ => exact fun q => c16 q | 4, _ => exact fun q => c21 q)) (by decide) ?_
  refine v_lload0 (pc := 96) K dX4_isSo_96 ?_
  refine v_lload3 (pc := 97) K dX4_isSo_97 ?_
  obtain ⟨t26, h28, h⟩ := bd h
  have hJ27 : V (mkX M YM E base 5 (.ok (some (.int r))) σ) σ 107 [none, none, none, none, none] [.int t26] := by
    cases h
    exact v_zret (pc := 107) K dX4_isSo_107 rfl rfl
  clear h
  have h := h28
  refine v_lc_le (pc := 98) (tgt := 106) K dX4_isSo_98 dX4_isSo_99 (by decide) (fun c29 => ?_) (fun c29 => ?_)
  · have h := it c29 h
    refine v_ic0 (pc := 106) K dX4_isSo_106 ?_
    cases h
    exact (v_fg [false, true, false, false, true] hJ27)
  · have h := ie c29 h
    refine v_ic1 (pc := 102) K dX4_isSo_102 ?_
    refine v_goto (pc := 103) (tgt := 107) K dX4_isSo_103 (by decide) ?_
    cases h
    exact (v_fg [false, true, false, false, true] hJ27)
set_option maxRecDepth 100000 in
def m_X4_compare (σ : St) (a0 : Int32) (a1 : Int32) (a2 : Int32) (a3 : Int64) (a4 : Int32) : Option (Int32 × St) :=
  ((m_X4_isMask (sI σ 0 0 (0 : Int32)) a0).bind fun v1 => (if v1 = 0 then ((m_X4_fails (sI σ 0 0 (0 : Int32)) (1 : Int32)).bind fun v4 => some (v4.1, v4.2)) else ((m_X4_areIn (sI σ 0 0 (0 : Int32)) a1 a4).bind fun v6 => (if v6 = 0 then ((m_X4_fails (sI σ 0 0 (0 : Int32)) (1 : Int32)).bind fun v40 => some (v40.1, v40.2)) else ((m_X4_isIn (sI σ 0 0 (0 : Int32)) ((a2).toInt64) (0 : Int64) (5 : Int64)).bind fun v9 => (if v9 = 0 then ((m_X4_fails (sI σ 0 0 (0 : Int32)) (2 : Int32)).bind fun v38 => some (v38.1, v38.2)) else ((lp 5000 (fun (s12 : Int32 × St) => (if (192 : Int32) ≤ s12.1 then some (.inr s12.2) else ((m_X4_hasUnder s12.2 a1 s12.1 a4).bind fun v20 => ((if v20 = 0 then some (0 : Int32) else ((m_X4_at s12.2 a1 s12.1).bind fun v26 => ((ix v26 1152).bind fun j28 => ((m_X4_isSo s12.2 (s12.2.2 1 j28) a2 a3).bind fun v30 => (if v30 = 0 then some (0 : Int32) else some (1 : Int32)))))).bind fun (t22 : Int32) => ((ix s12.1 192).bind fun j33 => some (.inl ((s12.1 + 1), (sI s12.2 5 j33 (nz t22))))))))) ((0 : Int32), (sI σ 0 0 (0 : Int32)))).bind fun (r13 : St) => ((m_X4_becomes r13 a0).bind fun v35 => some (v35.1, v35.2)))))))))
set_option maxHeartbeats 4000000 in
set_option maxRecDepth 100000 in
theorem t_X4_compare (l : Launch) (hnt : l.stackTraces = false) {E : Ev} {base : Nat} (hE : Adr YM E base) (σ : St) (a0 : Int32) (a1 : Int32) (a2 : Int32) (a3 : Int64) (a4 : Int32) (r : Int32 × St) (h : m_X4_compare σ a0 a1 a2 a3 a4 = some r) : Ctr l yX4_compare cX4_compare 8 (some .int) 3 68 YM E base [.ref (E.2.2 0), .int a0, .int a1, .int a2, .long a3, .int a4] σ (.ok (some (.int r.1))) r.2 := by
  unfold m_X4_compare at h
  refine ofV 1 (by decide +kernel) rfl hE hnt (Nat.le_of_ble_eq_true rfl) rfl (fun M hN K => ?_)
  refine v_aload0 (pc := 0) K dX4_compare_0 ?_
  refine v_ic0 (pc := 1) K dX4_compare_1 ?_
  refine v_put (pc := 2) K fw_RX4_69 dX4_compare_2 rfl rfl (Nat.le_of_ble_eq_true rfl) rfl rfl ?_
  refine v_iload1 (pc := 5) K dX4_compare_5 ?_
  obtain ⟨v1, h2, h⟩ := bd h
  refine v_cS1I (pc := 6)  K ca_yX4_isMask ml_RX4_91 (t_X4_isMask _ K.nt K.ad (sI σ 0 0 (0 : Int32)) a0 v1 h2) (Nat.le_of_ble_eq_true rfl) (by decide) (by decide) dX4_compare_6 ?_
  refine v_if_eq (pc := 9) (tgt := 22) K dX4_compare_9 (by decide) (fun c3 => ?_) (fun c3 => ?_)
  · have h := it c3 h
    refine v_aload0 (pc := 22) K dX4_compare_22 ?_
    refine v_ic1 (pc := 23) K dX4_compare_23 ?_
    obtain ⟨v4, h5, h⟩ := bd h
    refine v_cV1I (pc := 24)  K ca_yX4_fails ml_RX4_105 (Nat.le_of_ble_eq_true rfl) rfl rfl (t_X4_fails _ K.nt K.ad (sI σ 0 0 (0 : Int32)) (1 : Int32) v4 h5) (Nat.le_of_ble_eq_true rfl) (by decide) (by decide) dX4_compare_24 ?_
    cases h
    exact v_iret (pc := 27) K dX4_compare_27 rfl rfl
  · have h := ie c3 h
    refine v_aload0 (pc := 12) K dX4_compare_12 ?_
    refine v_iload2 (pc := 13) K dX4_compare_13 ?_
    refine v_iload6 (pc := 14) K dX4_compare_14 ?_
    obtain ⟨v6, h7, h⟩ := bd h
    refine v_cV2I (pc := 16)  K ca_yX4_areIn ml_RX4_164 (Nat.le_of_ble_eq_true rfl) rfl rfl (t_X4_areIn _ K.nt K.ad (sI σ 0 0 (0 : Int32)) a1 a4 v6 h7) (Nat.le_of_ble_eq_true rfl) (by decide) (by decide) dX4_compare_16 ?_
    refine v_if_ne (pc := 19) (tgt := 28) K dX4_compare_19 (by decide) (fun c8 => ?_) (fun c8 => ?_)
    · have h := ie c8 h
      refine v_iload3 (pc := 28) K dX4_compare_28 ?_
      refine v_i2l (pc := 29) K dX4_compare_29 ?_
      refine v_lc0 (pc := 30) K dX4_compare_30 ?_
      refine v_ldc2 (pc := 31) K dX4_compare_31 cl_RX4_168 ?_
      obtain ⟨v9, h10, h⟩ := bd h
      refine v_cS3I (pc := 34)  K ca_yX4_isIn ml_RX4_76 (t_X4_isIn _ K.nt K.ad (sI σ 0 0 (0 : Int32)) ((a2).toInt64) (0 : Int64) (5 : Int64) v9 h10) (Nat.le_of_ble_eq_true rfl) (by decide) (by decide) dX4_compare_34 ?_
      refine v_if_ne (pc := 37) (tgt := 46) K dX4_compare_37 (by decide) (fun c11 => ?_) (fun c11 => ?_)
      · have h := ie c11 h
        refine v_ic0 (pc := 46) K dX4_compare_46 ?_
        refine v_istore7 (pc := 47) K dX4_compare_47 rfl (Nat.le_of_ble_eq_true rfl) ?_
        obtain ⟨r13, h15, h⟩ := bd h
        have hJ14 : V (mkX M YM E base 8 (.ok (some (.int r.1))) r.2) r13 107 [some (.ref (E.2.2 0)), some (.int a0), none, none, none, none, none, none] [] := by
          refine v_aload0 (pc := 107) K dX4_compare_107 ?_
          refine v_iload1 (pc := 108) K dX4_compare_108 ?_
          obtain ⟨v35, h36, h⟩ := bd h
          refine v_cV1I (pc := 109)  K ca_yX4_becomes ml_RX4_159 (Nat.le_of_ble_eq_true rfl) rfl rfl (t_X4_becomes _ K.nt K.ad r13 a0 v35 h36) (Nat.le_of_ble_eq_true rfl) (by decide) (by decide) dX4_compare_109 ?_
          cases h
          exact v_iret (pc := 112) K dX4_compare_112 rfl rfl
        clear h
        have hL37 := lpv h15 (fun s12 : Int32 × St => V (mkX M YM E base 8 (.ok (some (.int r.1))) r.2) s12.2 49 [some (.ref (E.2.2 0)), some (.int a0), some (.int a1), some (.int a2), some (.long a3), none, some (.int a4), some (.int s12.1)] [])
        refine hL37 (fun s12 o h hk => ?_)
        refine v_iload7 (pc := 49) K dX4_compare_49 ?_
        refine v_sipush (pc := 51) (v := 192) K dX4_compare_51 (by decide) ?_
        refine v_icmp_ge (pc := 54) (tgt := 107) K dX4_compare_54 (by decide) (fun c19 => ?_) (fun c19 => ?_)
        · have h := it c19 h
          have e := lx h hk
          cases e
          exact v_fg [true, true, false, false, false, true, false, false] hJ14
        · have h := ie c19 h
          refine v_aload0 (pc := 57) K dX4_compare_57 ?_
          refine v_getR (pc := 58) K fl_RX4_24 dX4_compare_58 (Nat.le_of_ble_eq_true rfl) rfl rfl ?_
          refine v_iload7 (pc := 61) K dX4_compare_61 ?_
          refine v_aload0 (pc := 63) K dX4_compare_63 ?_
          refine v_iload2 (pc := 64) K dX4_compare_64 ?_
          refine v_iload7 (pc := 65) K dX4_compare_65 ?_
          refine v_iload6 (pc := 67) K dX4_compare_67 ?_
          obtain ⟨v20, h21, h⟩ := bd h
          refine v_cV3I (pc := 69)  K ca_yX4_hasUnder ml_RX4_170 (Nat.le_of_ble_eq_true rfl) rfl rfl (t_X4_hasUnder _ K.nt K.ad s12.2 a1 s12.1 a4 v20 h21) (Nat.le_of_ble_eq_true rfl) (by decide) (by decide) dX4_compare_69 ?_
          obtain ⟨t22, h24, h⟩ := bd h
          have hJ23 : V (mkX M YM E base 8 (.ok (some (.int r.1))) r.2) s12.2 100 [some (.ref (E.2.2 0)), some (.int a0), some (.int a1), some (.int a2), some (.long a3), none, some (.int a4), some (.int s12.1)] [.int t22, .int s12.1, .ref (E.2.2 5)] := by
            obtain ⟨j33, h34, h⟩ := bd h
            refine v_zastore (pc := 100) K dX4_compare_100 (Nat.le_of_ble_eq_true rfl) rfl h34 ?_
            refine v_iinc7 (pc := 101) (w := 1) K dX4_compare_101 rfl (Nat.le_of_ble_eq_true rfl) (by decide) ?_
            refine v_goto (pc := 104) (tgt := 49) K dX4_compare_104 (by decide) ?_
            have e := lfc h hk
            exact e
          clear h
          have h := h24
          refine v_if_eq (pc := 72) (tgt := 99) K dX4_compare_72 (by decide) (fun c25 => ?_) (fun c25 => ?_)
          · have h := it c25 h
            refine v_ic0 (pc := 99) K dX4_compare_99 ?_
            cases h
            exact hJ23
          · have h := ie c25 h
            refine v_aload0 (pc := 75) K dX4_compare_75 ?_
            refine v_getR (pc := 76) K fl_RX4_7 dX4_compare_76 (Nat.le_of_ble_eq_true rfl) rfl rfl ?_
            refine v_iload2 (pc := 79) K dX4_compare_79 ?_
            refine v_iload7 (pc := 80) K dX4_compare_80 ?_
            obtain ⟨v26, h27, h⟩ := bd h
            refine v_cS2I (pc := 82)  K ca_yX4_at ml_RX4_94 (t_X4_at _ K.nt K.ad s12.2 a1 s12.1 v26 h27) (Nat.le_of_ble_eq_true rfl) (by decide) (by decide) dX4_compare_82 ?_
            obtain ⟨j28, h29, h⟩ := bd h
            refine v_laload (pc := 85) K dX4_compare_85 (Nat.le_of_ble_eq_true rfl) rfl h29 ?_
            refine v_iload3 (pc := 86) K dX4_compare_86 ?_
            refine v_lload4 (pc := 87) K dX4_compare_87 ?_
            obtain ⟨v30, h31, h⟩ := bd h
            refine v_cS3I (pc := 89)  K ca_yX4_isSo ml_RX4_173 (t_X4_isSo _ K.nt K.ad s12.2 (s12.2.2 1 j28) a2 a3 v30 h31) (Nat.le_of_ble_eq_true rfl) (by decide) (by decide) dX4_compare_89 ?_
            refine v_if_eq (pc := 92) (tgt := 99) K dX4_compare_92 (by decide) (fun c32 => ?_) (fun c32 => ?_)
            · have h := it c32 h
              refine v_ic0 (pc := 99) K dX4_compare_99 ?_
              cases h
              exact hJ23
            · have h := ie c32 h
              refine v_ic1 (pc := 95) K dX4_compare_95 ?_
              refine v_goto (pc := 96) (tgt := 100) K dX4_compare_96 (by decide) ?_
              cases h
              exact hJ23
      · have h := it c11 h
        refine v_aload0 (pc := 40) K dX4_compare_40 ?_
        refine v_ic2 (pc := 41) K dX4_compare_41 ?_
        obtain ⟨v38, h39, h⟩ := bd h
        refine v_cV1I (pc := 42)  K ca_yX4_fails ml_RX4_105 (Nat.le_of_ble_eq_true rfl) rfl rfl (t_X4_fails _ K.nt K.ad (sI σ 0 0 (0 : Int32)) (2 : Int32) v38 h39) (Nat.le_of_ble_eq_true rfl) (by decide) (by decide) dX4_compare_42 ?_
        cases h
        exact v_iret (pc := 45) K dX4_compare_45 rfl rfl
    · have h := it c8 h
      refine v_aload0 (pc := 22) K dX4_compare_22 ?_
      refine v_ic1 (pc := 23) K dX4_compare_23 ?_
      obtain ⟨v40, h41, h⟩ := bd h
      refine v_cV1I (pc := 24)  K ca_yX4_fails ml_RX4_105 (Nat.le_of_ble_eq_true rfl) rfl rfl (t_X4_fails _ K.nt K.ad (sI σ 0 0 (0 : Int32)) (1 : Int32) v40 h41) (Nat.le_of_ble_eq_true rfl) (by decide) (by decide) dX4_compare_24 ?_
      cases h
      exact v_iret (pc := 27) K dX4_compare_27 rfl rfl
