set_option maxRecDepth 100000 in
def c_X3_word (σ : St) (a0 : Int32) (a1 : Int32) : Option (Except String Int64 × St) :=
  (xB (c_X3_needMask σ a0) fun _ s2 => (xB (c_X3_needWord s2 a1) fun _ s6 => ((ix a0 8).bind fun j9 => ((ix a1 3).bind fun j11 => some (.ok (s6.2 (11 + j9) j11), s6)))))
set_option maxHeartbeats 4000000 in
set_option maxRecDepth 100000 in
theorem t_X3_word (l : Launch) (hnt : l.stackTraces = false) {E : Ev} {base : Nat} (hE : Adr YC E base) (σ : St) (a0 : Int32) (a1 : Int32) (r : Except String Int64) (σ' : St) (h : c_X3_word σ a0 a1 = some (r, σ')) : Ctr l yX3_word cX3_word 3 (some .long) 7 120 YC E base [.ref (E.2.2 0), .int a0, .int a1] σ (rL r) σ' := by
  unfold c_X3_word at h
  refine ofV 0 (by decide +kernel) rfl hE hnt (Nat.le_of_ble_eq_true rfl) rfl (fun M hN K => ?_)
  refine v_iload1 (pc := 0) K dX3_word_0 ?_
  rcases xb h with ⟨v1, s2, h3, h⟩ | ⟨e4, s2, h3, hF⟩
  · refine v_cS1U (pc := 1) K ca_yX3_needMask ml_RX3_125 (t_X3_needMask _ K.nt K.ad σ a0 (.ok v1) s2 h3) (Nat.le_of_ble_eq_true rfl) (by decide) (by decide) dX3_word_1 ?_
    refine v_iload2 (pc := 4) K dX3_word_4 ?_
    rcases xb h with ⟨v5, s6, h7, h⟩ | ⟨e8, s6, h7, hF⟩
    · refine v_cS1U (pc := 5) K ca_yX3_needWord ml_RX3_112 (t_X3_needWord _ K.nt K.ad s2 a1 (.ok v5) s6 h7) (Nat.le_of_ble_eq_true rfl) (by decide) (by decide) dX3_word_5 ?_
      refine v_aload0 (pc := 8) K dX3_word_8 ?_
      refine v_getR (pc := 9) K fl_RX3_14 dX3_word_9 (Nat.le_of_ble_eq_true rfl) rfl rfl ?_
      refine v_getR (pc := 12) K fl_RX3_134 dX3_word_12 (Nat.le_of_ble_eq_true rfl) rfl rfl ?_
      refine v_iload1 (pc := 15) K dX3_word_15 ?_
      obtain ⟨j9, h10, h⟩ := bd h
      refine v_aal (pc := 16) (b := 11) K dX3_word_16 (Nat.le_of_ble_eq_true rfl) rfl rfl h10 ?_
      refine v_iload2 (pc := 17) K dX3_word_17 ?_
      obtain ⟨j11, h12, h⟩ := bd h
      refine v_laload (pc := 18) K dX3_word_18 (mskC' (ix_lt h10)) (mskC (ix_lt h10)) h12 ?_
      cases h
      exact v_lret (pc := 19) K dX3_word_19 rfl rfl
    · cases hF
      exact v_cS1X (pc := 5)  K ca_yX3_needWord ml_RX3_112 (t_X3_needWord _ K.nt K.ad s2 a1 (.error e8) _ h7) (Nat.le_of_ble_eq_true rfl) (by decide) (by decide) dX3_word_5 hN rfl rfl
  · cases hF
    exact v_cS1X (pc := 1)  K ca_yX3_needMask ml_RX3_125 (t_X3_needMask _ K.nt K.ad σ a0 (.error e4) _ h3) (Nat.le_of_ble_eq_true rfl) (by decide) (by decide) dX3_word_1 hN rfl rfl
set_option maxRecDepth 100000 in
def c_X3_count (σ : St) (a0 : Int32) (a1 : Int32) : Option (Except String Int32 × St) :=
  (xB (c_X3_needColumn σ a0) fun _ s2 => (xB (c_X3_needMask s2 a1) fun _ s6 => ((c_X3_gather s6 a0 a1).bind fun v9 => some (.ok (v9.1 19 0), v9))))
set_option maxHeartbeats 4000000 in
set_option maxRecDepth 100000 in
theorem t_X3_count (l : Launch) (hnt : l.stackTraces = false) {E : Ev} {base : Nat} (hE : Adr YC E base) (σ : St) (a0 : Int32) (a1 : Int32) (r : Except String Int32) (σ' : St) (h : c_X3_count σ a0 a1 = some (r, σ')) : Ctr l yX3_count cX3_count 3 (some .int) 7 121 YC E base [.ref (E.2.2 0), .int a0, .int a1] σ (rI r) σ' := by
  unfold c_X3_count at h
  refine ofV 0 (by decide +kernel) rfl hE hnt (Nat.le_of_ble_eq_true rfl) rfl (fun M hN K => ?_)
  refine v_aload0 (pc := 0) K dX3_count_0 ?_
  refine v_iload1 (pc := 1) K dX3_count_1 ?_
  rcases xb h with ⟨v1, s2, h3, h⟩ | ⟨e4, s2, h3, hF⟩
  · refine v_cV1U (pc := 2) K ca_yX3_needColumn ml_RX3_66 (Nat.le_of_ble_eq_true rfl) rfl rfl (t_X3_needColumn _ K.nt K.ad σ a0 (.ok v1) s2 h3) (Nat.le_of_ble_eq_true rfl) (by decide) (by decide) dX3_count_2 ?_
    refine v_iload2 (pc := 5) K dX3_count_5 ?_
    rcases xb h with ⟨v5, s6, h7, h⟩ | ⟨e8, s6, h7, hF⟩
    · refine v_cS1U (pc := 6) K ca_yX3_needMask ml_RX3_125 (t_X3_needMask _ K.nt K.ad s2 a1 (.ok v5) s6 h7) (Nat.le_of_ble_eq_true rfl) (by decide) (by decide) dX3_count_6 ?_
      refine v_aload0 (pc := 9) K dX3_count_9 ?_
      refine v_iload1 (pc := 10) K dX3_count_10 ?_
      refine v_iload2 (pc := 11) K dX3_count_11 ?_
      obtain ⟨v9, h10, h⟩ := bd h
      refine v_cV2U (pc := 12)  K ca_yX3_gather ml_RX3_166 (Nat.le_of_ble_eq_true rfl) rfl rfl (t_X3_gather _ K.nt K.ad s6 a0 a1 v9 h10) (Nat.le_of_ble_eq_true rfl) (by decide) (by decide) dX3_count_12 ?_
      refine v_aload0 (pc := 15) K dX3_count_15 ?_
      refine v_getR (pc := 16) K fl_RX3_25 dX3_count_16 (Nat.le_of_ble_eq_true rfl) rfl rfl ?_
      refine v_getI (pc := 19) K fl_RX3_173 dX3_count_19 (Nat.le_of_ble_eq_true rfl) rfl rfl ?_
      cases h
      exact v_iret (pc := 22) K dX3_count_22 rfl rfl
    · cases hF
      exact v_cS1X (pc := 6)  K ca_yX3_needMask ml_RX3_125 (t_X3_needMask _ K.nt K.ad s2 a1 (.error e8) _ h7) (Nat.le_of_ble_eq_true rfl) (by decide) (by decide) dX3_count_6 hN rfl rfl
  · cases hF
    exact v_cV1X (pc := 2)  K ca_yX3_needColumn ml_RX3_66 (Nat.le_of_ble_eq_true rfl) rfl rfl (t_X3_needColumn _ K.nt K.ad σ a0 (.error e4) _ h3) (Nat.le_of_ble_eq_true rfl) (by decide) (by decide) dX3_count_2 hN rfl rfl
set_option maxRecDepth 100000 in
def c_X2_restart (σ : St) : Option (St) :=
  ((lp 5000 (fun (s1 : Int32 × St) => (if (3 : Int32) < s1.1 then some (.inr s1.2) else ((ix s1.1 4).bind fun j9 => some (.inl ((s1.1 + 1), (sL s1.2 25 j9 (0 : Int64))))))) ((0 : Int32), σ)).bind fun (r2 : St) => some r2)
set_option maxHeartbeats 4000000 in
set_option maxRecDepth 100000 in
theorem t_X2_restart (l : Launch) (hnt : l.stackTraces = false) {E : Ev} {base : Nat} (hE : Adr YC E base) (σ : St) (r : St) (h : c_X2_restart σ = some r) : Ctr l yX2_restart cX2_restart 2 none 0 0 YC E base [.ref (E.2.2 24)] σ (.ok none) r := by
  unfold c_X2_restart at h
  refine ofV 1 (by decide +kernel) rfl hE hnt (Nat.le_of_ble_eq_true rfl) rfl (fun M hN K => ?_)
  refine v_ic0 (pc := 0) K dX2_restart_0 ?_
  refine v_istore1 (pc := 1) K dX2_restart_1 rfl (Nat.le_of_ble_eq_true rfl) ?_
  obtain ⟨r2, h4, h⟩ := bd h
  have hJ3 : V (mkX M YC E base 2 (.ok none) r) r2 20 [none, none] [] := by
    cases h
    exact v_vret (pc := 20) K dX2_restart_20 rfl rfl
  clear h
  have hL11 := lpv h4 (fun s1 : Int32 × St => V (mkX M YC E base 2 (.ok none) r) s1.2 2 [some (.ref (E.2.2 24)), some (.int s1.1)] [])
  refine hL11 (fun s1 o h hk => ?_)
  refine v_iload1 (pc := 2) K dX2_restart_2 ?_
  refine v_ic3 (pc := 3) K dX2_restart_3 ?_
  refine v_icmp_gt (pc := 4) (tgt := 20) K dX2_restart_4 (by decide) (fun c8 => ?_) (fun c8 => ?_)
  · have h := it c8 h
    have e := lx h hk
    cases e
    exact v_fg [false, false] hJ3
  · have h := ie c8 h
    refine v_aload0 (pc := 7) K dX2_restart_7 ?_
    refine v_getR (pc := 8) K fl_RX2_9 dX2_restart_8 (Nat.le_of_ble_eq_true rfl) rfl rfl ?_
    refine v_iload1 (pc := 11) K dX2_restart_11 ?_
    refine v_lc0 (pc := 12) K dX2_restart_12 ?_
    obtain ⟨j9, h10, h⟩ := bd h
    refine v_lastore (pc := 13) K dX2_restart_13 (Nat.le_of_ble_eq_true rfl) rfl h10 ?_
    refine v_iinc1 (pc := 14) (w := 1) K dX2_restart_14 rfl (Nat.le_of_ble_eq_true rfl) (by decide) ?_
    refine v_goto (pc := 17) (tgt := 2) K dX2_restart_17 (by decide) ?_
    have e := lfc h hk
    exact e
set_option maxRecDepth 100000 in
def c_X2_includeAt (σ : St) (a0 : Int32) (a1 : Int64) : Option (St) :=
  ((lp 5000 (fun (s1 : Int64 × Int32 × St) => (if (3 : Int32) ≤ s1.2.1 then some (.inr (s1.1, s1.2.2)) else ((ix s1.2.1 4).bind fun j9 => ((ix s1.2.1 4).bind fun j11 => some (.inl (((s1.2.2.2 25 j9 + s1.1) >>> (((31 : Int32)).toInt64 &&& 63)), (s1.2.1 + 1), (sL s1.2.2 25 j11 ((s1.2.2.2 25 j9 + s1.1) &&& (2147483647 : Int64))))))))) (a1, a0, σ)).bind fun (r2 : Int64 × St) => ((ix (3 : Int32) 4).bind fun j13 => ((ix (3 : Int32) 4).bind fun j15 => some (sL r2.2 25 j15 (r2.2.2 25 j13 + r2.1)))))
set_option maxHeartbeats 4000000 in
set_option maxRecDepth 100000 in
theorem t_X2_includeAt (l : Launch) (hnt : l.stackTraces = false) {E : Ev} {base : Nat} (hE : Adr YC E base) (σ : St) (a0 : Int32) (a1 : Int64) (r : St) (h : c_X2_includeAt σ a0 a1 = some r) : Ctr l yX2_includeAt cX2_includeAt 9 none 0 0 YC E base [.ref (E.2.2 24), .int a0, .long a1] σ (.ok none) r := by
  unfold c_X2_includeAt at h
  refine ofV 5 (by decide +kernel) rfl hE hnt (Nat.le_of_ble_eq_true rfl) rfl (fun M hN K => ?_)
  refine v_lload2 (pc := 0) K dX2_includeAt_0 ?_
  refine v_lstore4 (pc := 1) K dX2_includeAt_1 rfl (Nat.le_of_ble_eq_true rfl) ?_
  refine v_iload1 (pc := 3) K dX2_includeAt_3 ?_
  refine v_istore6 (pc := 4) K dX2_includeAt_4 rfl (Nat.le_of_ble_eq_true rfl) ?_
  obtain ⟨r2, h4, h⟩ := bd h
  have hJ3 : V (mkX M YC E base 9 (.ok none) r) r2.2 50 [some (.ref (E.2.2 24)), none, none, none, some (.long r2.1), none, none, none, none] [] := by
    refine v_aload0 (pc := 50) K dX2_includeAt_50 ?_
    refine v_getR (pc := 51) K fl_RX2_9 dX2_includeAt_51 (Nat.le_of_ble_eq_true rfl) rfl rfl ?_
    refine v_ic3 (pc := 54) K dX2_includeAt_54 ?_
    refine v_dup2IR (pc := 55) K dX2_includeAt_55 ?_
    obtain ⟨j13, h14, h⟩ := bd h
    refine v_laload (pc := 56) K dX2_includeAt_56 (Nat.le_of_ble_eq_true rfl) rfl h14 ?_
    refine v_lload4 (pc := 57) K dX2_includeAt_57 ?_
    refine v_ladd (pc := 59) K dX2_includeAt_59 ?_
    obtain ⟨j15, h16, h⟩ := bd h
    refine v_lastore (pc := 60) K dX2_includeAt_60 (Nat.le_of_ble_eq_true rfl) rfl h16 ?_
    cases h
    exact v_vret (pc := 61) K dX2_includeAt_61 rfl rfl
  clear h
  refine v_fg [true, false, false, true, true, true, true, true, true] ?_
  have hL17 := lpv h4 (fun s1 : Int64 × Int32 × St => V (mkX M YC E base 9 (.ok none) r) s1.2.2 6 [some (.ref (E.2.2 24)), none, none, none, some (.long s1.1), none, some (.int s1.2.1), none, none] [])
  refine hL17 (fun s1 o h hk => ?_)
  refine v_iload6 (pc := 6) K dX2_includeAt_6 ?_
  refine v_ic3 (pc := 8) K dX2_includeAt_8 ?_
  refine v_icmp_ge (pc := 9) (tgt := 50) K dX2_includeAt_9 (by decide) (fun c8 => ?_) (fun c8 => ?_)
  · have h := it c8 h
    have e := lx h hk
    cases e
    exact v_fg [true, true, true, true, true, true, false, true, true] hJ3
  · have h := ie c8 h
    refine v_aload0 (pc := 12) K dX2_includeAt_12 ?_
    refine v_getR (pc := 13) K fl_RX2_9 dX2_includeAt_13 (Nat.le_of_ble_eq_true rfl) rfl rfl ?_
    refine v_iload6 (pc := 16) K dX2_includeAt_16 ?_
    obtain ⟨j9, h10, h⟩ := bd h
    refine v_laload (pc := 18) K dX2_includeAt_18 (Nat.le_of_ble_eq_true rfl) rfl h10 ?_
    refine v_lload4 (pc := 19) K dX2_includeAt_19 ?_
    refine v_ladd (pc := 21) K dX2_includeAt_21 ?_
    refine v_lstore7 (pc := 22) K dX2_includeAt_22 rfl (Nat.le_of_ble_eq_true rfl) ?_
    refine v_aload0 (pc := 24) K dX2_includeAt_24 ?_
    refine v_getR (pc := 25) K fl_RX2_9 dX2_includeAt_25 (Nat.le_of_ble_eq_true rfl) rfl rfl ?_
    refine v_iload6 (pc := 28) K dX2_includeAt_28 ?_
    refine v_lload7 (pc := 30) K dX2_includeAt_30 ?_
    refine v_ldc2 (pc := 32) K dX2_includeAt_32 cl_RX2_13 ?_
    refine v_land (pc := 35) K dX2_includeAt_35 ?_
    obtain ⟨j11, h12, h⟩ := bd h
    refine v_lastore (pc := 36) K dX2_includeAt_36 (Nat.le_of_ble_eq_true rfl) rfl h12 ?_
    refine v_lload7 (pc := 37) K dX2_includeAt_37 ?_
    refine v_bipush (pc := 39) (v := 31) K dX2_includeAt_39 (by decide) ?_
    refine v_lshr (pc := 41) K dX2_includeAt_41 ?_
    refine v_lstore4 (pc := 42) K dX2_includeAt_42 rfl (Nat.le_of_ble_eq_true rfl) ?_
    refine v_iinc6 (pc := 44) (w := 1) K dX2_includeAt_44 rfl (Nat.le_of_ble_eq_true rfl) (by decide) ?_
    refine v_goto (pc := 47) (tgt := 6) K dX2_includeAt_47 (by decide) ?_
    have e := lfc h hk
    exact v_fg [true, true, true, true, true, true, true, false, true] e
set_option maxRecDepth 100000 in
def c_X2_include (σ : St) (a0 : Int64) : Option (St) :=
  ((c_X2_includeAt σ (0 : Int32) (a0 &&& (2147483647 : Int64))).bind fun v1 => ((c_X2_includeAt v1 (1 : Int32) (a0 >>> (((31 : Int32)).toInt64 &&& 63))).bind fun v3 => some v3))
set_option maxHeartbeats 4000000 in
set_option maxRecDepth 100000 in
theorem t_X2_include (l : Launch) (hnt : l.stackTraces = false) {E : Ev} {base : Nat} (hE : Adr YC E base) (σ : St) (a0 : Int64) (r : St) (h : c_X2_include σ a0 = some r) : Ctr l yX2_include cX2_include 3 none 1 28 YC E base [.ref (E.2.2 24), .long a0] σ (.ok none) r := by
  unfold c_X2_include at h
  refine ofV 0 (by decide +kernel) rfl hE hnt (Nat.le_of_ble_eq_true rfl) rfl (fun M hN K => ?_)
  refine v_aload0 (pc := 0) K dX2_include_0 ?_
  refine v_ic0 (pc := 1) K dX2_include_1 ?_
  refine v_lload1 (pc := 2) K dX2_include_2 ?_
  refine v_ldc2 (pc := 3) K dX2_include_3 cl_RX2_13 ?_
  refine v_land (pc := 6) K dX2_include_6 ?_
  obtain ⟨v1, h2, h⟩ := bd h
  refine v_cV2U (pc := 7)  K ca_yX2_includeAt ml_RX2_15 (Nat.le_of_ble_eq_true rfl) rfl rfl (t_X2_includeAt _ K.nt K.ad σ (0 : Int32) (a0 &&& (2147483647 : Int64)) v1 h2) (Nat.le_of_ble_eq_true rfl) (by decide) (by decide) dX2_include_7 ?_
  refine v_aload0 (pc := 10) K dX2_include_10 ?_
  refine v_ic1 (pc := 11) K dX2_include_11 ?_
  refine v_lload1 (pc := 12) K dX2_include_12 ?_
  refine v_bipush (pc := 13) (v := 31) K dX2_include_13 (by decide) ?_
  refine v_lshr (pc := 15) K dX2_include_15 ?_
  obtain ⟨v3, h4, h⟩ := bd h
  refine v_cV2U (pc := 16)  K ca_yX2_includeAt ml_RX2_15 (Nat.le_of_ble_eq_true rfl) rfl rfl (t_X2_includeAt _ K.nt K.ad v1 (1 : Int32) (a0 >>> (((31 : Int32)).toInt64 &&& 63)) v3 h4) (Nat.le_of_ble_eq_true rfl) (by decide) (by decide) dX2_include_16 ?_
  cases h
  exact v_vret (pc := 19) K dX2_include_19 rfl rfl
set_option maxRecDepth 100000 in
def c_X2_isLong (σ : St) : Option (Int32) :=
  ((ix (3 : Int32) 4).bind fun j1 => ((if σ.2 25 j1 = (0 : Int64) then ((ix (2 : Int32) 4).bind fun j7 => (if (1 : Int64) < σ.2 25 j7 then some (0 : Int32) else some (1 : Int32))) else some (0 : Int32)).bind fun (t3 : Int32) => ((ix (3 : Int32) 4).bind fun j10 => ((if σ.2 25 j10 = ((-1) : Int64) then ((ix (2 : Int32) 4).bind fun j16 => (if σ.2 25 j16 < (2147483646 : Int64) then some (0 : Int32) else some (1 : Int32))) else some (0 : Int32)).bind fun (t12 : Int32) => ((if t3 = 0 then (if t12 = 0 then some (0 : Int32) else some (1 : Int32)) else some (1 : Int32)).bind fun (t19 : Int32) => some (nz t19))))))
set_option maxHeartbeats 4000000 in
set_option maxRecDepth 100000 in
theorem t_X2_isLong (l : Launch) (hnt : l.stackTraces = false) {E : Ev} {base : Nat} (hE : Adr YC E base) (σ : St) (r : Int32) (h : c_X2_isLong σ = some r) : Ctr l yX2_isLong cX2_isLong 3 (some .boolean) 0 0 YC E base [.ref (E.2.2 24)] σ (.ok (some (.int r))) σ := by
  unfold c_X2_isLong at h
  refine ofV 2 (by decide +kernel) rfl hE hnt (Nat.le_of_ble_eq_true rfl) rfl (fun M hN K => ?_)
  refine v_aload0 (pc := 0) K dX2_isLong_0 ?_
  refine v_getR (pc := 1) K fl_RX2_9 dX2_isLong_1 (Nat.le_of_ble_eq_true rfl) rfl rfl ?_
  refine v_ic3 (pc := 4) K dX2_isLong_4 ?_
  obtain ⟨j1, h2, h⟩ := bd h
  refine v_laload (pc := 5) K dX2_isLong_5 (Nat.le_of_ble_eq_true rfl) rfl h2 ?_
  refine v_lc0 (pc := 6) K dX2_isLong_6 ?_
  obtain ⟨t3, h5, h⟩ := bd h
  have hJ4 : V (mkX M YC E base 3 (.ok (some (.int r))) σ) σ 27 [some (.ref (E.2.2 24)), none, none] [.int t3] := by
    refine v_istore1 (pc := 27) K dX2_isLong_27 rfl (Nat.le_of_ble_eq_true rfl) ?_
    refine v_aload0 (pc := 28) K dX2_isLong_28 ?_
    refine v_getR (pc := 29) K fl_RX2_9 dX2_isLong_29 (Nat.le_of_ble_eq_true rfl) rfl rfl ?_
    refine v_ic3 (pc := 32) K dX2_isLong_32 ?_
    obtain ⟨j10, h11, h⟩ := bd h
    refine v_laload (pc := 33) K dX2_isLong_33 (Nat.le_of_ble_eq_true rfl) rfl h11 ?_
    refine v_ldc2 (pc := 34) K dX2_isLong_34 cl_RX2_19 ?_
    obtain ⟨t12, h14, h⟩ := bd h
    have hJ13 : V (mkX M YC E base 3 (.ok (some (.int r))) σ) σ 59 [none, some (.int t3), none] [.int t12] := by
      refine v_istore2 (pc := 59) K dX2_isLong_59 rfl (Nat.le_of_ble_eq_true rfl) ?_
      refine v_iload1 (pc := 60) K dX2_isLong_60 ?_
      obtain ⟨t19, h21, h⟩ := bd h
      have hJ20 : V (mkX M YC E base 3 (.ok (some (.int r))) σ) σ 73 [none, none, none] [.int t19] := by
        cases h
        exact v_zret (pc := 73) K dX2_isLong_73 rfl rfl
      clear h
      have h := h21
      refine v_if_ne (pc := 61) (tgt := 68) K dX2_isLong_61 (by decide) (fun c22 => ?_) (fun c22 => ?_)
      · have h := ie c22 h
        refine v_ic1 (pc := 68) K dX2_isLong_68 ?_
        refine v_goto (pc := 69) (tgt := 73) K dX2_isLong_69 (by decide) ?_
        cases h
        exact (v_fg [true, false, false] hJ20)
      · have h := it c22 h
        refine v_iload2 (pc := 64) K dX2_isLong_64 ?_
        refine v_if_eq (pc := 65) (tgt := 72) K dX2_isLong_65 (by decide) (fun c23 => ?_) (fun c23 => ?_)
        · have h := it c23 h
          refine v_ic0 (pc := 72) K dX2_isLong_72 ?_
          cases h
          exact (v_fg [true, false, false] hJ20)
        · have h := ie c23 h
          refine v_ic1 (pc := 68) K dX2_isLong_68 ?_
          refine v_goto (pc := 69) (tgt := 73) K dX2_isLong_69 (by decide) ?_
          cases h
          exact (v_fg [true, false, false] hJ20)
    clear h
    have h := h14
    refine v_lc_ne (pc := 37) (tgt := 58) K dX2_isLong_37 dX2_isLong_38 (by decide) (fun c15 => ?_) (fun c15 => ?_)
    · have h := ie c15 h
      refine v_ic0 (pc := 58) K dX2_isLong_58 ?_
      cases h
      exact (v_fg [false, true, true] hJ13)
    · have h := it c15 h
      refine v_aload0 (pc := 41) K dX2_isLong_41 ?_
      refine v_getR (pc := 42) K fl_RX2_9 dX2_isLong_42 (Nat.le_of_ble_eq_true rfl) rfl rfl ?_
      refine v_ic2 (pc := 45) K dX2_isLong_45 ?_
      obtain ⟨j16, h17, h⟩ := bd h
      refine v_laload (pc := 46) K dX2_isLong_46 (Nat.le_of_ble_eq_true rfl) rfl h17 ?_
      refine v_ldc2 (pc := 47) K dX2_isLong_47 cl_RX2_21 ?_
      refine v_lc_lt (pc := 50) (tgt := 58) K dX2_isLong_50 dX2_isLong_51 (by decide) (fun c18 => ?_) (fun c18 => ?_)
      · have h := it c18 h
        refine v_ic0 (pc := 58) K dX2_isLong_58 ?_
        cases h
        exact (v_fg [false, true, true] hJ13)
      · have h := ie c18 h
        refine v_ic1 (pc := 54) K dX2_isLong_54 ?_
        refine v_goto (pc := 55) (tgt := 59) K dX2_isLong_55 (by decide) ?_
        cases h
        exact (v_fg [false, true, true] hJ13)
  clear h
  have h := h5
  refine v_lc_ne (pc := 7) (tgt := 26) K dX2_isLong_7 dX2_isLong_8 (by decide) (fun c6 => ?_) (fun c6 => ?_)
  · have h := ie c6 h
    refine v_ic0 (pc := 26) K dX2_isLong_26 ?_
    cases h
    exact hJ4
  · have h := it c6 h
    refine v_aload0 (pc := 11) K dX2_isLong_11 ?_
    refine v_getR (pc := 12) K fl_RX2_9 dX2_isLong_12 (Nat.le_of_ble_eq_true rfl) rfl rfl ?_
    refine v_ic2 (pc := 15) K dX2_isLong_15 ?_
    obtain ⟨j7, h8, h⟩ := bd h
    refine v_laload (pc := 16) K dX2_isLong_16 (Nat.le_of_ble_eq_true rfl) rfl h8 ?_
    refine v_lc1 (pc := 17) K dX2_isLong_17 ?_
    refine v_lc_gt (pc := 18) (tgt := 26) K dX2_isLong_18 dX2_isLong_19 (by decide) (fun c9 => ?_) (fun c9 => ?_)
    · have h := it c9 h
      refine v_ic0 (pc := 26) K dX2_isLong_26 ?_
      cases h
      exact hJ4
    · have h := ie c9 h
      refine v_ic1 (pc := 22) K dX2_isLong_22 ?_
      refine v_goto (pc := 23) (tgt := 27) K dX2_isLong_23 (by decide) ?_
      cases h
      exact hJ4
set_option maxRecDepth 100000 in
def c_X3_needLong (σ : St) (a0 : Int32) : Option (Except String Unit × St) :=
  (if a0 = 0 then some (.error "java/lang/ArithmeticException", σ) else some (.ok (), σ))
set_option maxHeartbeats 4000000 in
set_option maxRecDepth 100000 in
theorem t_X3_needLong (l : Launch) (hnt : l.stackTraces = false) {E : Ev} {base : Nat} (hE : Adr YC E base) (σ : St) (a0 : Int32) (r : Except String Unit) (σ' : St) (h : c_X3_needLong σ a0 = some (r, σ')) : Ctr l yX3_needLong cX3_needLong 1 none 6 100 YC E base [.int a0] σ (rU r) σ' := by
  unfold c_X3_needLong at h
  refine ofV 0 (by decide +kernel) rfl hE hnt (Nat.le_of_ble_eq_true rfl) rfl (fun M hN K => ?_)
  refine v_iload0 (pc := 0) K dX3_needLong_0 ?_
  refine v_if_ne (pc := 1) (tgt := 15) K dX3_needLong_1 (by decide) (fun c1 => ?_) (fun c1 => ?_)
  · have h := ie c1 h
    cases h
    exact v_vret (pc := 15) K dX3_needLong_15 rfl rfl
  · have h := it c1 h
    cases h
    exact v_throw (pc := 4) (text := "the answer is no long") K hN tw_ArithmeticException (by decide +kernel) dX3_needLong_4 dX3_needLong_7 dX3_needLong_8 dX3_needLong_11 dX3_needLong_14 (by decide) (by decide) rfl rfl
set_option maxRecDepth 100000 in
def c_X2_asLong (σ : St) : Option (Int64) :=
  ((ix (0 : Int32) 4).bind fun j1 => ((ix (1 : Int32) 4).bind fun j3 => ((ix (2 : Int32) 4).bind fun j5 => some ((σ.2 25 j1 ||| (σ.2 25 j3 <<< (((31 : Int32)).toInt64 &&& 63))) ||| (σ.2 25 j5 <<< (((62 : Int32)).toInt64 &&& 63))))))
set_option maxHeartbeats 4000000 in
set_option maxRecDepth 100000 in
theorem t_X2_asLong (l : Launch) (hnt : l.stackTraces = false) {E : Ev} {base : Nat} (hE : Adr YC E base) (σ : St) (r : Int64) (h : c_X2_asLong σ = some r) : Ctr l yX2_asLong cX2_asLong 1 (some .long) 0 0 YC E base [.ref (E.2.2 24)] σ (.ok (some (.long r))) σ := by
  unfold c_X2_asLong at h
  refine ofV 0 (by decide +kernel) rfl hE hnt (Nat.le_of_ble_eq_true rfl) rfl (fun M hN K => ?_)
  refine v_aload0 (pc := 0) K dX2_asLong_0 ?_
  refine v_getR (pc := 1) K fl_RX2_9 dX2_asLong_1 (Nat.le_of_ble_eq_true rfl) rfl rfl ?_
  refine v_ic0 (pc := 4) K dX2_asLong_4 ?_
  obtain ⟨j1, h2, h⟩ := bd h
  refine v_laload (pc := 5) K dX2_asLong_5 (Nat.le_of_ble_eq_true rfl) rfl h2 ?_
  refine v_aload0 (pc := 6) K dX2_asLong_6 ?_
  refine v_getR (pc := 7) K fl_RX2_9 dX2_asLong_7 (Nat.le_of_ble_eq_true rfl) rfl rfl ?_
  refine v_ic1 (pc := 10) K dX2_asLong_10 ?_
  obtain ⟨j3, h4, h⟩ := bd h
  refine v_laload (pc := 11) K dX2_asLong_11 (Nat.le_of_ble_eq_true rfl) rfl h4 ?_
  refine v_bipush (pc := 12) (v := 31) K dX2_asLong_12 (by decide) ?_
  refine v_lshl (pc := 14) K dX2_asLong_14 ?_
  refine v_lor (pc := 15) K dX2_asLong_15 ?_
  refine v_aload0 (pc := 16) K dX2_asLong_16 ?_
  refine v_getR (pc := 17) K fl_RX2_9 dX2_asLong_17 (Nat.le_of_ble_eq_true rfl) rfl rfl ?_
  refine v_ic2 (pc := 20) K dX2_asLong_20 ?_
  obtain ⟨j5, h6, h⟩ := bd h
  refine v_laload (pc := 21) K dX2_asLong_21 (Nat.le_of_ble_eq_true rfl) rfl h6 ?_
  refine v_bipush (pc := 22) (v := 62) K dX2_asLong_22 (by decide) ?_
  refine v_lshl (pc := 24) K dX2_asLong_24 ?_
  refine v_lor (pc := 25) K dX2_asLong_25 ?_
  cases h
  exact v_lret (pc := 26) K dX2_asLong_26 rfl rfl
set_option maxRecDepth 100000 in
def c_X2_exactLong (σ : St) : Option (Except String Int64 × St) :=
  ((c_X2_isLong σ).bind fun v1 => (xB (c_X3_needLong σ v1) fun _ s4 => ((c_X2_asLong s4).bind fun v7 => some (.ok v7, s4))))
set_option maxHeartbeats 4000000 in
set_option maxRecDepth 100000 in
theorem t_X2_exactLong (l : Launch) (hnt : l.stackTraces = false) {E : Ev} {base : Nat} (hE : Adr YC E base) (σ : St) (r : Except String Int64) (σ' : St) (h : c_X2_exactLong σ = some (r, σ')) : Ctr l yX2_exactLong cX2_exactLong 1 (some .long) 7 120 YC E base [.ref (E.2.2 24)] σ (rL r) σ' := by
  unfold c_X2_exactLong at h
  refine ofV 0 (by decide +kernel) rfl hE hnt (Nat.le_of_ble_eq_true rfl) rfl (fun M hN K => ?_)
  refine v_aload0 (pc := 0) K dX2_exactLong_0 ?_
  obtain ⟨v1, h2, h⟩ := bd h
  refine v_cV0I (pc := 1)  K ca_yX2_isLong ml_RX2_23 (Nat.le_of_ble_eq_true rfl) rfl rfl (t_X2_isLong _ K.nt K.ad σ v1 h2) (Nat.le_of_ble_eq_true rfl) (by decide) (by decide) dX2_exactLong_1 ?_
  rcases xb h with ⟨v3, s4, h5, h⟩ | ⟨e6, s4, h5, hF⟩
  · refine v_cN1U (pc := 4) (host := "SliceColumns") K ca_yX3_needLong (by decide +kernel) (t_X3_needLong _ K.nt K.ad σ v1 (.ok v3) s4 h5) (Nat.le_of_ble_eq_true rfl) (by decide) (by decide) dX2_exactLong_4 ?_
    refine v_aload0 (pc := 7) K dX2_exactLong_7 ?_
    obtain ⟨v7, h8, h⟩ := bd h
    refine v_cV0L (pc := 8)  K ca_yX2_asLong ml_RX2_33 (Nat.le_of_ble_eq_true rfl) rfl rfl (t_X2_asLong _ K.nt K.ad s4 v7 h8) (Nat.le_of_ble_eq_true rfl) (by decide) (by decide) dX2_exactLong_8 ?_
    cases h
    exact v_lret (pc := 11) K dX2_exactLong_11 rfl rfl
  · cases hF
    exact v_cN1X (pc := 4) (host := "SliceColumns") K ca_yX3_needLong (by decide +kernel) (t_X3_needLong _ K.nt K.ad σ v1 (.error e6) _ h5) (Nat.le_of_ble_eq_true rfl) (by decide) (by decide) dX2_exactLong_4 hN rfl rfl
set_option maxRecDepth 100000 in
def c_X3_sumUpTo (σ : St) (a0 : Int32) (a1 : Int32) (a2 : Int32) : Option (Except String Int64 × St) :=
  ((c_X2_restart σ).bind fun v1 => ((lp 5000 (fun (s3 : Int32 × St) => (if a2 ≤ s3.1 then some (.inr s3.2) else (if s3.2.1 1 0 ≤ s3.1 then some (.inr s3.2) else ((c_X1_isNumbered s3.2 a0 s3.1 a1).bind fun v12 => ((if v12 = 0 then some s3.2 else ((ix a0 6).bind fun j18 => ((ix s3.1 192).bind fun j20 => ((c_X2_include s3.2 (s3.2.2 (4 + j18) j20)).bind fun v22 => some v22)))).bind fun (t14 : St) => some (.inl ((s3.1 + 1), t14))))))) ((0 : Int32), v1)).bind fun (r4 : St) => (xB (c_X2_exactLong r4) fun v24 s25 => some (.ok v24, s25))))
set_option maxHeartbeats 4000000 in
set_option maxRecDepth 100000 in
theorem t_X3_sumUpTo (l : Launch) (hnt : l.stackTraces = false) {E : Ev} {base : Nat} (hE : Adr YC E base) (σ : St) (a0 : Int32) (a1 : Int32) (a2 : Int32) (r : Except String Int64) (σ' : St) (h : c_X3_sumUpTo σ a0 a1 a2 = some (r, σ')) : Ctr l yX3_sumUpTo cX3_sumUpTo 5 (some .long) 8 140 YC E base [.ref (E.2.2 0), .int a0, .int a1, .int a2] σ (rL r) σ' := by
  unfold c_X3_sumUpTo at h
  refine ofV 1 (by decide +kernel) rfl hE hnt (Nat.le_of_ble_eq_true rfl) rfl (fun M hN K => ?_)
  refine v_aload0 (pc := 0) K dX3_sumUpTo_0 ?_
  refine v_getR (pc := 1) K fl_RX3_32 dX3_sumUpTo_1 (Nat.le_of_ble_eq_true rfl) rfl rfl ?_
  obtain ⟨v1, h2, h⟩ := bd h
  refine v_cV0U (pc := 4)  K ca_yX2_restart ml_RX3_213 (Nat.le_of_ble_eq_true rfl) rfl rfl (t_X2_restart _ K.nt K.ad σ v1 h2) (Nat.le_of_ble_eq_true rfl) (by decide) (by decide) dX3_sumUpTo_4 ?_
  refine v_ic0 (pc := 7) K dX3_sumUpTo_7 ?_
  refine v_istore4 (pc := 8) K dX3_sumUpTo_8 rfl (Nat.le_of_ble_eq_true rfl) ?_
  obtain ⟨r4, h6, h⟩ := bd h
  have hJ5 : V (mkX M YC E base 5 (rL r) σ') r4 67 [some (.ref (E.2.2 0)), none, none, none, none] [] := by
    refine v_aload0 (pc := 67) K dX3_sumUpTo_67 ?_
    refine v_getR (pc := 68) K fl_RX3_32 dX3_sumUpTo_68 (Nat.le_of_ble_eq_true rfl) rfl rfl ?_
    rcases xb h with ⟨v24, s25, h26, h⟩ | ⟨e27, s25, h26, hF⟩
    · refine v_cV0L (pc := 71) K ca_yX2_exactLong ml_RX3_220 (Nat.le_of_ble_eq_true rfl) rfl rfl (t_X2_exactLong _ K.nt K.ad r4 (.ok v24) s25 h26) (Nat.le_of_ble_eq_true rfl) (by decide) (by decide) dX3_sumUpTo_71 ?_
      cases h
      exact v_lret (pc := 74) K dX3_sumUpTo_74 rfl rfl
    · cases hF
      exact v_cV0X (pc := 71)  K ca_yX2_exactLong ml_RX3_220 (Nat.le_of_ble_eq_true rfl) rfl rfl (t_X2_exactLong _ K.nt K.ad r4 (.error e27) _ h26) (Nat.le_of_ble_eq_true rfl) (by decide) (by decide) dX3_sumUpTo_71 hN rfl rfl
  clear h
  have hL28 := lpv h6 (fun s3 : Int32 × St => V (mkX M YC E base 5 (rL r) σ') s3.2 10 [some (.ref (E.2.2 0)), some (.int a0), some (.int a1), some (.int a2), some (.int s3.1)] [])
  refine hL28 (fun s3 o h hk => ?_)
  refine v_iload4 (pc := 10) K dX3_sumUpTo_10 ?_
  refine v_iload3 (pc := 12) K dX3_sumUpTo_12 ?_
  refine v_icmp_ge (pc := 13) (tgt := 67) K dX3_sumUpTo_13 (by decide) (fun c10 => ?_) (fun c10 => ?_)
  · have h := it c10 h
    have e := lx h hk
    cases e
    exact v_fg [true, false, false, false, false] hJ5
  · have h := ie c10 h
    refine v_iload4 (pc := 16) K dX3_sumUpTo_16 ?_
    refine v_aload0 (pc := 18) K dX3_sumUpTo_18 ?_
    refine v_getR (pc := 19) K fl_RX3_14 dX3_sumUpTo_19 (Nat.le_of_ble_eq_true rfl) rfl rfl ?_
    refine v_getI (pc := 22) K fl_RX3_76 dX3_sumUpTo_22 (Nat.le_of_ble_eq_true rfl) rfl rfl ?_
    refine v_icmp_ge (pc := 25) (tgt := 67) K dX3_sumUpTo_25 (by decide) (fun c11 => ?_) (fun c11 => ?_)
    · have h := it c11 h
      have e := lx h hk
      cases e
      exact v_fg [true, false, false, false, false] hJ5
    · have h := ie c11 h
      refine v_aload0 (pc := 28) K dX3_sumUpTo_28 ?_
      refine v_getR (pc := 29) K fl_RX3_14 dX3_sumUpTo_29 (Nat.le_of_ble_eq_true rfl) rfl rfl ?_
      refine v_iload1 (pc := 32) K dX3_sumUpTo_32 ?_
      refine v_iload4 (pc := 33) K dX3_sumUpTo_33 ?_
      refine v_iload2 (pc := 35) K dX3_sumUpTo_35 ?_
      obtain ⟨v12, h13, h⟩ := bd h
      refine v_cV3I (pc := 36)  K ca_yX1_isNumbered ml_RX3_150 (Nat.le_of_ble_eq_true rfl) rfl rfl (t_X1_isNumbered _ K.nt K.ad s3.2 a0 s3.1 a1 v12 h13) (Nat.le_of_ble_eq_true rfl) (by decide) (by decide) dX3_sumUpTo_36 ?_
      obtain ⟨t14, h16, h⟩ := bd h
      have hJ15 : V (mkX M YC E base 5 (rL r) σ') t14 61 [some (.ref (E.2.2 0)), some (.int a0), some (.int a1), some (.int a2), some (.int s3.1)] [] := by
        refine v_iinc4 (pc := 61) (w := 1) K dX3_sumUpTo_61 rfl (Nat.le_of_ble_eq_true rfl) (by decide) ?_
        refine v_goto (pc := 64) (tgt := 10) K dX3_sumUpTo_64 (by decide) ?_
        have e := lfc h hk
        exact e
      clear h
      have h := h16
      refine v_if_eq (pc := 39) (tgt := 61) K dX3_sumUpTo_39 (by decide) (fun c17 => ?_) (fun c17 => ?_)
      · have h := it c17 h
        cases h
        exact hJ15
      · have h := ie c17 h
        refine v_aload0 (pc := 42) K dX3_sumUpTo_42 ?_
        refine v_getR (pc := 43) K fl_RX3_32 dX3_sumUpTo_43 (Nat.le_of_ble_eq_true rfl) rfl rfl ?_
        refine v_aload0 (pc := 46) K dX3_sumUpTo_46 ?_
        refine v_getR (pc := 47) K fl_RX3_14 dX3_sumUpTo_47 (Nat.le_of_ble_eq_true rfl) rfl rfl ?_
        refine v_getR (pc := 50) K fl_RX3_86 dX3_sumUpTo_50 (Nat.le_of_ble_eq_true rfl) rfl rfl ?_
        refine v_iload1 (pc := 53) K dX3_sumUpTo_53 ?_
        obtain ⟨j18, h19, h⟩ := bd h
        refine v_aal (pc := 54) (b := 4) K dX3_sumUpTo_54 (Nat.le_of_ble_eq_true rfl) rfl rfl h19 ?_
        refine v_iload4 (pc := 55) K dX3_sumUpTo_55 ?_
        obtain ⟨j20, h21, h⟩ := bd h
        refine v_laload (pc := 57) K dX3_sumUpTo_57 (rowC' (ix_lt h19)) (rowC (ix_lt h19)) h21 ?_
        obtain ⟨v22, h23, h⟩ := bd h
        refine v_cV1U (pc := 58)  K ca_yX2_include ml_RX3_228 (Nat.le_of_ble_eq_true rfl) rfl rfl (t_X2_include _ K.nt K.ad s3.2 (s3.2.2 (4 + j18) j20) v22 h23) (Nat.le_of_ble_eq_true rfl) (by decide) (by decide) dX3_sumUpTo_58 ?_
        cases h
        exact hJ15
set_option maxRecDepth 100000 in
def c_X3_sum (σ : St) (a0 : Int32) (a1 : Int32) : Option (Except String Int64 × St) :=
  (xB (c_X3_needColumn σ a0) fun _ s2 => (xB (c_X3_needMask s2 a1) fun _ s6 => (xB (c_X3_sumUpTo s6 a0 a1 (s6.1 1 0)) fun v9 s10 => some (.ok v9, s10))))
set_option maxHeartbeats 4000000 in
set_option maxRecDepth 100000 in
theorem t_X3_sum (l : Launch) (hnt : l.stackTraces = false) {E : Ev} {base : Nat} (hE : Adr YC E base) (σ : St) (a0 : Int32) (a1 : Int32) (r : Except String Int64) (σ' : St) (h : c_X3_sum σ a0 a1 = some (r, σ')) : Ctr l yX3_sum cX3_sum 3 (some .long) 9 164 YC E base [.ref (E.2.2 0), .int a0, .int a1] σ (rL r) σ' := by
  unfold c_X3_sum at h
  refine ofV 0 (by decide +kernel) rfl hE hnt (Nat.le_of_ble_eq_true rfl) rfl (fun M hN K => ?_)
  refine v_aload0 (pc := 0) K dX3_sum_0 ?_
  refine v_iload1 (pc := 1) K dX3_sum_1 ?_
  rcases xb h with ⟨v1, s2, h3, h⟩ | ⟨e4, s2, h3, hF⟩
  · refine v_cV1U (pc := 2) K ca_yX3_needColumn ml_RX3_66 (Nat.le_of_ble_eq_true rfl) rfl rfl (t_X3_needColumn _ K.nt K.ad σ a0 (.ok v1) s2 h3) (Nat.le_of_ble_eq_true rfl) (by decide) (by decide) dX3_sum_2 ?_
    refine v_iload2 (pc := 5) K dX3_sum_5 ?_
    rcases xb h with ⟨v5, s6, h7, h⟩ | ⟨e8, s6, h7, hF⟩
    · refine v_cS1U (pc := 6) K ca_yX3_needMask ml_RX3_125 (t_X3_needMask _ K.nt K.ad s2 a1 (.ok v5) s6 h7) (Nat.le_of_ble_eq_true rfl) (by decide) (by decide) dX3_sum_6 ?_
      refine v_aload0 (pc := 9) K dX3_sum_9 ?_
      refine v_iload1 (pc := 10) K dX3_sum_10 ?_
      refine v_iload2 (pc := 11) K dX3_sum_11 ?_
      refine v_aload0 (pc := 12) K dX3_sum_12 ?_
      refine v_getR (pc := 13) K fl_RX3_14 dX3_sum_13 (Nat.le_of_ble_eq_true rfl) rfl rfl ?_
      refine v_getI (pc := 16) K fl_RX3_76 dX3_sum_16 (Nat.le_of_ble_eq_true rfl) rfl rfl ?_
      rcases xb h with ⟨v9, s10, h11, h⟩ | ⟨e12, s10, h11, hF⟩
      · refine v_cV3L (pc := 19) K ca_yX3_sumUpTo ml_RX3_186 (Nat.le_of_ble_eq_true rfl) rfl rfl (t_X3_sumUpTo _ K.nt K.ad s6 a0 a1 (s6.1 1 0) (.ok v9) s10 h11) (Nat.le_of_ble_eq_true rfl) (by decide) (by decide) dX3_sum_19 ?_
        cases h
        exact v_lret (pc := 22) K dX3_sum_22 rfl rfl
      · cases hF
        exact v_cV3X (pc := 19)  K ca_yX3_sumUpTo ml_RX3_186 (Nat.le_of_ble_eq_true rfl) rfl rfl (t_X3_sumUpTo _ K.nt K.ad s6 a0 a1 (s6.1 1 0) (.error e12) _ h11) (Nat.le_of_ble_eq_true rfl) (by decide) (by decide) dX3_sum_19 hN rfl rfl
    · cases hF
      exact v_cS1X (pc := 6)  K ca_yX3_needMask ml_RX3_125 (t_X3_needMask _ K.nt K.ad s2 a1 (.error e8) _ h7) (Nat.le_of_ble_eq_true rfl) (by decide) (by decide) dX3_sum_6 hN rfl rfl
  · cases hF
    exact v_cV1X (pc := 2)  K ca_yX3_needColumn ml_RX3_66 (Nat.le_of_ble_eq_true rfl) rfl rfl (t_X3_needColumn _ K.nt K.ad σ a0 (.error e4) _ h3) (Nat.le_of_ble_eq_true rfl) (by decide) (by decide) dX3_sum_2 hN rfl rfl
set_option maxRecDepth 100000 in
def c_X3_mean (σ : St) (a0 : Int32) (a1 : Int32) (a2 : Int32) : Option (Except String Int64 × St) :=
  (xB (c_X3_needColumn σ a0) fun _ s2 => (xB (c_X3_needMask s2 a1) fun _ s6 => ((if a2 = 0 then some (1 : Int32) else (if a2 = (1 : Int32) then some (1 : Int32) else some (0 : Int32))).bind fun (t9 : Int32) => (xB (c_X3_needArgument s6 t9) fun _ s15 => ((c_X3_gather s15 a0 a1).bind fun v18 => ((if v18.1 19 0 ≤ 0 then some (0 : Int32) else some (1 : Int32)).bind fun (t20 : Int32) => (xB (c_X3_needState v18 t20) fun _ s25 => ((lp 5000 (fun (s28 : Int64 × Int64 × Int32) => (if v18.1 19 0 ≤ s28.2.2 then some (.inr (s28.1, s28.2.1)) else ((ix s28.2.2 192).bind fun j36 => ((c_J9_floorDiv_f86c9 s25 (s25.2 21 j36) ((v18.1 19 0).toInt64)).bind fun v38 => ((ix s28.2.2 192).bind fun j40 => ((c_J9_floorMod_f86c9 s25 (s25.2 21 j40) ((v18.1 19 0).toInt64)).bind fun v42 => some (.inl ((s28.1 + v38), (s28.2.1 + v42), (s28.2.2 + 1))))))))) ((0 : Int64), (0 : Int64), (0 : Int32))).bind fun (r29 : Int64 × Int64) => ((if a2 = 0 then (if (v18.1 19 0).toInt64 = 0 then none else some (r29.1 + (r29.2 / (v18.1 19 0).toInt64))) else (if (v18.1 19 0).toInt64 = 0 then none else some (r29.2 - r29.2 / (v18.1 19 0).toInt64 * (v18.1 19 0).toInt64))).bind fun (t44 : Int64) => some (.ok t44, s25))))))))))
set_option maxHeartbeats 4000000 in
set_option maxRecDepth 100000 in
theorem t_X3_mean (l : Launch) (hnt : l.stackTraces = false) {E : Ev} {base : Nat} (hE : Adr YC E base) (σ : St) (a0 : Int32) (a1 : Int32) (a2 : Int32) (r : Except String Int64) (σ' : St) (h : c_X3_mean σ a0 a1 a2 = some (r, σ')) : Ctr l yX3_mean cX3_mean 10 (some .long) 7 121 YC E base [.ref (E.2.2 0), .int a0, .int a1, .int a2] σ (rL r) σ' := by
  unfold c_X3_mean at h
  refine ofV 6 (by decide +kernel) rfl hE hnt (Nat.le_of_ble_eq_true rfl) rfl (fun M hN K => ?_)
  refine v_aload0 (pc := 0) K dX3_mean_0 ?_
  refine v_iload1 (pc := 1) K dX3_mean_1 ?_
  rcases xb h with ⟨v1, s2, h3, h⟩ | ⟨e4, s2, h3, hF⟩
  · refine v_cV1U (pc := 2) K ca_yX3_needColumn ml_RX3_66 (Nat.le_of_ble_eq_true rfl) rfl rfl (t_X3_needColumn _ K.nt K.ad σ a0 (.ok v1) s2 h3) (Nat.le_of_ble_eq_true rfl) (by decide) (by decide) dX3_mean_2 ?_
    refine v_iload2 (pc := 5) K dX3_mean_5 ?_
    rcases xb h with ⟨v5, s6, h7, h⟩ | ⟨e8, s6, h7, hF⟩
    · refine v_cS1U (pc := 6) K ca_yX3_needMask ml_RX3_125 (t_X3_needMask _ K.nt K.ad s2 a1 (.ok v5) s6 h7) (Nat.le_of_ble_eq_true rfl) (by decide) (by decide) dX3_mean_6 ?_
      refine v_iload3 (pc := 9) K dX3_mean_9 ?_
      obtain ⟨t9, h11, h⟩ := bd h
      have hJ10 : V (mkX M YC E base 10 (rL r) σ') s6 23 [some (.ref (E.2.2 0)), some (.int a0), some (.int a1), some (.int a2), none, none, none, none, none, none] [.int t9] := by
        rcases xb h with ⟨v14, s15, h16, h⟩ | ⟨e17, s15, h16, hF⟩
        · refine v_cS1U (pc := 23) K ca_yX3_needArgument ml_RX3_73 (t_X3_needArgument _ K.nt K.ad s6 t9 (.ok v14) s15 h16) (Nat.le_of_ble_eq_true rfl) (by decide) (by decide) dX3_mean_23 ?_
          refine v_aload0 (pc := 26) K dX3_mean_26 ?_
          refine v_iload1 (pc := 27) K dX3_mean_27 ?_
          refine v_iload2 (pc := 28) K dX3_mean_28 ?_
          obtain ⟨v18, h19, h⟩ := bd h
          refine v_cV2U (pc := 29)  K ca_yX3_gather ml_RX3_166 (Nat.le_of_ble_eq_true rfl) rfl rfl (t_X3_gather _ K.nt K.ad s15 a0 a1 v18 h19) (Nat.le_of_ble_eq_true rfl) (by decide) (by decide) dX3_mean_29 ?_
          refine v_aload0 (pc := 32) K dX3_mean_32 ?_
          refine v_getR (pc := 33) K fl_RX3_25 dX3_mean_33 (Nat.le_of_ble_eq_true rfl) rfl rfl ?_
          refine v_getI (pc := 36) K fl_RX3_173 dX3_mean_36 (Nat.le_of_ble_eq_true rfl) rfl rfl ?_
          refine v_istore4 (pc := 39) K dX3_mean_39 rfl (Nat.le_of_ble_eq_true rfl) ?_
          refine v_iload4 (pc := 41) K dX3_mean_41 ?_
          obtain ⟨t20, h22, h⟩ := bd h
          have hJ21 : V (mkX M YC E base 10 (rL r) σ') v18 51 [some (.ref (E.2.2 0)), none, none, some (.int a2), some (.int (v18.1 19 0)), none, none, none, none, none] [.int t20] := by
            rcases xb h with ⟨v24, s25, h26, h⟩ | ⟨e27, s25, h26, hF⟩
            · refine v_cS1U (pc := 51) K ca_yX3_needState ml_RX3_54 (t_X3_needState _ K.nt K.ad v18 t20 (.ok v24) s25 h26) (Nat.le_of_ble_eq_true rfl) (by decide) (by decide) dX3_mean_51 ?_
              refine v_lc0 (pc := 54) K dX3_mean_54 ?_
              refine v_lstore5 (pc := 55) K dX3_mean_55 rfl (Nat.le_of_ble_eq_true rfl) ?_
              refine v_lc0 (pc := 57) K dX3_mean_57 ?_
              refine v_lstore7 (pc := 58) K dX3_mean_58 rfl (Nat.le_of_ble_eq_true rfl) ?_
              refine v_ic0 (pc := 60) K dX3_mean_60 ?_
              refine v_istore9 (pc := 61) K dX3_mean_61 rfl (Nat.le_of_ble_eq_true rfl) ?_
              obtain ⟨r29, h31, h⟩ := bd h
              have hJ30 : V (mkX M YC E base 10 (rL r) σ') s25 118 [none, none, none, some (.int a2), some (.int (v18.1 19 0)), some (.long r29.1), none, some (.long r29.2), none, none] [] := by
                refine v_iload3 (pc := 118) K dX3_mean_118 ?_
                obtain ⟨t44, h46, h⟩ := bd h
                have hJ45 : V (mkX M YC E base 10 (rL r) σ') s25 140 [none, none, none, none, none, none, none, none, none, none] [.long t44] := by
                  cases h
                  exact v_lret (pc := 140) K dX3_mean_140 rfl rfl
                clear h
                have h := h46
                refine v_if_ne (pc := 119) (tgt := 134) K dX3_mean_119 (by decide) (fun c47 => ?_) (fun c47 => ?_)
                · have h := ie c47 h
                  refine v_lload7 (pc := 134) K dX3_mean_134 ?_
                  refine v_iload4 (pc := 136) K dX3_mean_136 ?_
                  refine v_i2l (pc := 138) K dX3_mean_138 ?_
                  by_cases c48 : (v18.1 19 0).toInt64 = 0
                  · cases (it c48 h)
                  have h := ie c48 h
                  refine v_lrem (pc := 139) K dX3_mean_139 c48 ?_
                  cases h
                  exact (v_fg [true, true, true, false, false, false, true, false, true, true] hJ45)
                · have h := it c47 h
                  refine v_lload5 (pc := 122) K dX3_mean_122 ?_
                  refine v_lload7 (pc := 124) K dX3_mean_124 ?_
                  refine v_iload4 (pc := 126) K dX3_mean_126 ?_
                  refine v_i2l (pc := 128) K dX3_mean_128 ?_
                  by_cases c49 : (v18.1 19 0).toInt64 = 0
                  · cases (it c49 h)
                  have h := ie c49 h
                  refine v_ldiv (pc := 129) K dX3_mean_129 c49 ?_
                  refine v_ladd (pc := 130) K dX3_mean_130 ?_
                  refine v_goto (pc := 131) (tgt := 140) K dX3_mean_131 (by decide) ?_
                  cases h
                  exact (v_fg [true, true, true, false, false, false, true, false, true, true] hJ45)
              clear h
              have hL50 := lpv h31 (fun s28 : Int64 × Int64 × Int32 => V (mkX M YC E base 10 (rL r) σ') s25 63 [some (.ref (E.2.2 0)), none, none, some (.int a2), some (.int (v18.1 19 0)), some (.long s28.1), none, some (.long s28.2.1), none, some (.int s28.2.2)] [])
              refine hL50 (fun s28 o h hk => ?_)
              refine v_iload9 (pc := 63) K dX3_mean_63 ?_
              refine v_iload4 (pc := 65) K dX3_mean_65 ?_
              refine v_icmp_ge (pc := 67) (tgt := 118) K dX3_mean_67 (by decide) (fun c35 => ?_) (fun c35 => ?_)
              · have h := it c35 h
                have e := lx h hk
                cases e
                exact v_fg [false, true, true, true, true, true, true, true, true, false] hJ30
              · have h := ie c35 h
                refine v_lload5 (pc := 70) K dX3_mean_70 ?_
                refine v_aload0 (pc := 72) K dX3_mean_72 ?_
                refine v_getR (pc := 73) K fl_RX3_25 dX3_mean_73 (Nat.le_of_ble_eq_true rfl) rfl rfl ?_
                refine v_getR (pc := 76) K fl_RX3_190 dX3_mean_76 (Nat.le_of_ble_eq_true rfl) rfl rfl ?_
                refine v_iload9 (pc := 79) K dX3_mean_79 ?_
                obtain ⟨j36, h37, h⟩ := bd h
                refine v_laload (pc := 81) K dX3_mean_81 (Nat.le_of_ble_eq_true rfl) rfl h37 ?_
                refine v_iload4 (pc := 82) K dX3_mean_82 ?_
                refine v_i2l (pc := 84) K dX3_mean_84 ?_
                obtain ⟨v38, h39, h⟩ := bd h
                refine v_cS2L (pc := 85)  K ca_yJ9_floorDiv_f86c9 ml_RX3_193 (t_J9_floorDiv_f86c9 _ K.nt K.ad s25 (s25.2 21 j36) ((v18.1 19 0).toInt64) v38 h39) (Nat.le_of_ble_eq_true rfl) (by decide) (by decide) dX3_mean_85 ?_
                refine v_ladd (pc := 88) K dX3_mean_88 ?_
                refine v_lstore5 (pc := 89) K dX3_mean_89 rfl (Nat.le_of_ble_eq_true rfl) ?_
                refine v_lload7 (pc := 91) K dX3_mean_91 ?_
                refine v_aload0 (pc := 93) K dX3_mean_93 ?_
                refine v_getR (pc := 94) K fl_RX3_25 dX3_mean_94 (Nat.le_of_ble_eq_true rfl) rfl rfl ?_
                refine v_getR (pc := 97) K fl_RX3_190 dX3_mean_97 (Nat.le_of_ble_eq_true rfl) rfl rfl ?_
                refine v_iload9 (pc := 100) K dX3_mean_100 ?_
                obtain ⟨j40, h41, h⟩ := bd h
                refine v_laload (pc := 102) K dX3_mean_102 (Nat.le_of_ble_eq_true rfl) rfl h41 ?_
                refine v_iload4 (pc := 103) K dX3_mean_103 ?_
                refine v_i2l (pc := 105) K dX3_mean_105 ?_
                obtain ⟨v42, h43, h⟩ := bd h
                refine v_cS2L (pc := 106)  K ca_yJ9_floorMod_f86c9 ml_RX3_199 (t_J9_floorMod_f86c9 _ K.nt K.ad s25 (s25.2 21 j40) ((v18.1 19 0).toInt64) v42 h43) (Nat.le_of_ble_eq_true rfl) (by decide) (by decide) dX3_mean_106 ?_
                refine v_ladd (pc := 109) K dX3_mean_109 ?_
                refine v_lstore7 (pc := 110) K dX3_mean_110 rfl (Nat.le_of_ble_eq_true rfl) ?_
                refine v_iinc9 (pc := 112) (w := 1) K dX3_mean_112 rfl (Nat.le_of_ble_eq_true rfl) (by decide) ?_
                refine v_goto (pc := 115) (tgt := 63) K dX3_mean_115 (by decide) ?_
                have e := lfc h hk
                exact e
            · cases hF
              exact v_cS1X (pc := 51)  K ca_yX3_needState ml_RX3_54 (t_X3_needState _ K.nt K.ad v18 t20 (.error e27) _ h26) (Nat.le_of_ble_eq_true rfl) (by decide) (by decide) dX3_mean_51 hN rfl rfl
          clear h
          have h := h22
          refine v_if_le (pc := 43) (tgt := 50) K dX3_mean_43 (by decide) (fun c23 => ?_) (fun c23 => ?_)
          · have h := it c23 h
            refine v_ic0 (pc := 50) K dX3_mean_50 ?_
            cases h
            exact (v_fg [true, false, false, true, true, true, true, true, true, true] hJ21)
          · have h := ie c23 h
            refine v_ic1 (pc := 46) K dX3_mean_46 ?_
            refine v_goto (pc := 47) (tgt := 51) K dX3_mean_47 (by decide) ?_
            cases h
            exact (v_fg [true, false, false, true, true, true, true, true, true, true] hJ21)
        · cases hF
          exact v_cS1X (pc := 23)  K ca_yX3_needArgument ml_RX3_73 (t_X3_needArgument _ K.nt K.ad s6 t9 (.error e17) _ h16) (Nat.le_of_ble_eq_true rfl) (by decide) (by decide) dX3_mean_23 hN rfl rfl
      clear h
      have h := h11
      refine v_if_eq (pc := 10) (tgt := 18) K dX3_mean_10 (by decide) (fun c12 => ?_) (fun c12 => ?_)
      · have h := it c12 h
        refine v_ic1 (pc := 18) K dX3_mean_18 ?_
        refine v_goto (pc := 19) (tgt := 23) K dX3_mean_19 (by decide) ?_
        cases h
        exact hJ10
      · have h := ie c12 h
        refine v_iload3 (pc := 13) K dX3_mean_13 ?_
        refine v_ic1 (pc := 14) K dX3_mean_14 ?_
        refine v_icmp_ne (pc := 15) (tgt := 22) K dX3_mean_15 (by decide) (fun c13 => ?_) (fun c13 => ?_)
        · have h := ie c13 h
          refine v_ic0 (pc := 22) K dX3_mean_22 ?_
          cases h
          exact hJ10
        · have h := it c13 h
          refine v_ic1 (pc := 18) K dX3_mean_18 ?_
          refine v_goto (pc := 19) (tgt := 23) K dX3_mean_19 (by decide) ?_
          cases h
          exact hJ10
    · cases hF
      exact v_cS1X (pc := 6)  K ca_yX3_needMask ml_RX3_125 (t_X3_needMask _ K.nt K.ad s2 a1 (.error e8) _ h7) (Nat.le_of_ble_eq_true rfl) (by decide) (by decide) dX3_mean_6 hN rfl rfl
  · cases hF
    exact v_cV1X (pc := 2)  K ca_yX3_needColumn ml_RX3_66 (Nat.le_of_ble_eq_true rfl) rfl rfl (t_X3_needColumn _ K.nt K.ad σ a0 (.error e4) _ h3) (Nat.le_of_ble_eq_true rfl) (by decide) (by decide) dX3_mean_2 hN rfl rfl
set_option maxRecDepth 100000 in
def c_X0_numberOrNothing (σ : St) (a0 : Int32) : Option (Int64) :=
  ((if a0 < 0 then some ((-9223372036854775808) : Int64) else (if σ.1 19 0 ≤ a0 then some ((-9223372036854775808) : Int64) else ((ix a0 192).bind fun j6 => some (σ.2 21 j6)))).bind fun (t1 : Int64) => some t1)
set_option maxHeartbeats 4000000 in
set_option maxRecDepth 100000 in
theorem t_X0_numberOrNothing (l : Launch) (hnt : l.stackTraces = false) {E : Ev} {base : Nat} (hE : Adr YC E base) (σ : St) (a0 : Int32) (r : Int64) (h : c_X0_numberOrNothing σ a0 = some r) : Ctr l yX0_numberOrNothing cX0_numberOrNothing 2 (some .long) 0 0 YC E base [.ref (E.2.2 19), .int a0] σ (.ok (some (.long r))) σ := by
  unfold c_X0_numberOrNothing at h
  refine ofV 0 (by decide +kernel) rfl hE hnt (Nat.le_of_ble_eq_true rfl) rfl (fun M hN K => ?_)
  refine v_iload1 (pc := 0) K dX0_numberOrNothing_0 ?_
  obtain ⟨t1, h3, h⟩ := bd h
  have hJ2 : V (mkX M YC E base 2 (.ok (some (.long r))) σ) σ 24 [none, none] [.long t1] := by
    cases h
    exact v_lret (pc := 24) K dX0_numberOrNothing_24 rfl rfl
  clear h
  have h := h3
  refine v_if_lt (pc := 1) (tgt := 21) K dX0_numberOrNothing_1 (by decide) (fun c4 => ?_) (fun c4 => ?_)
  · have h := it c4 h
    refine v_ldc2 (pc := 21) K dX0_numberOrNothing_21 cl_RX0_29 ?_
    cases h
    exact (v_fg [false, false] hJ2)
  · have h := ie c4 h
    refine v_iload1 (pc := 4) K dX0_numberOrNothing_4 ?_
    refine v_aload0 (pc := 5) K dX0_numberOrNothing_5 ?_
    refine v_getI (pc := 6) K fl_RX0_25 dX0_numberOrNothing_6 (Nat.le_of_ble_eq_true rfl) rfl rfl ?_
    refine v_icmp_ge (pc := 9) (tgt := 21) K dX0_numberOrNothing_9 (by decide) (fun c5 => ?_) (fun c5 => ?_)
    · have h := it c5 h
      refine v_ldc2 (pc := 21) K dX0_numberOrNothing_21 cl_RX0_29 ?_
      cases h
      exact (v_fg [false, false] hJ2)
    · have h := ie c5 h
      refine v_aload0 (pc := 12) K dX0_numberOrNothing_12 ?_
      refine v_getR (pc := 13) K fl_RX0_15 dX0_numberOrNothing_13 (Nat.le_of_ble_eq_true rfl) rfl rfl ?_
      refine v_iload1 (pc := 16) K dX0_numberOrNothing_16 ?_
      obtain ⟨j6, h7, h⟩ := bd h
      refine v_laload (pc := 17) K dX0_numberOrNothing_17 (Nat.le_of_ble_eq_true rfl) rfl h7 ?_
      refine v_goto (pc := 18) (tgt := 24) K dX0_numberOrNothing_18 (by decide) ?_
      cases h
      exact (v_fg [false, false] hJ2)
set_option maxRecDepth 100000 in
def c_X3_kth (σ : St) (a0 : Int32) (a1 : Int32) (a2 : Int32) : Option (Except String Int64 × St) :=
  (xB (c_X3_needColumn σ a0) fun _ s2 => (xB (c_X3_needMask s2 a1) fun _ s6 => ((c_X3_gather s6 a0 a1).bind fun v9 => ((c_X0_putInOrder v9 (0 : Int32)).bind fun v11 => ((if 0 ≤ a2 then some a2 else some (v11.2.1 19 0 + a2)).bind fun (t13 : Int32) => ((c_X0_numberOrNothing v11.2 t13).bind fun v17 => some (.ok v17, v11.2)))))))
set_option maxHeartbeats 4000000 in
set_option maxRecDepth 100000 in
theorem t_X3_kth (l : Launch) (hnt : l.stackTraces = false) {E : Ev} {base : Nat} (hE : Adr YC E base) (σ : St) (a0 : Int32) (a1 : Int32) (a2 : Int32) (r : Except String Int64) (σ' : St) (h : c_X3_kth σ a0 a1 a2 = some (r, σ')) : Ctr l yX3_kth cX3_kth 4 (some .long) 7 121 YC E base [.ref (E.2.2 0), .int a0, .int a1, .int a2] σ (rL r) σ' := by
  unfold c_X3_kth at h
  refine ofV 0 (by decide +kernel) rfl hE hnt (Nat.le_of_ble_eq_true rfl) rfl (fun M hN K => ?_)
  refine v_aload0 (pc := 0) K dX3_kth_0 ?_
  refine v_iload1 (pc := 1) K dX3_kth_1 ?_
  rcases xb h with ⟨v1, s2, h3, h⟩ | ⟨e4, s2, h3, hF⟩
  · refine v_cV1U (pc := 2) K ca_yX3_needColumn ml_RX3_66 (Nat.le_of_ble_eq_true rfl) rfl rfl (t_X3_needColumn _ K.nt K.ad σ a0 (.ok v1) s2 h3) (Nat.le_of_ble_eq_true rfl) (by decide) (by decide) dX3_kth_2 ?_
    refine v_iload2 (pc := 5) K dX3_kth_5 ?_
    rcases xb h with ⟨v5, s6, h7, h⟩ | ⟨e8, s6, h7, hF⟩
    · refine v_cS1U (pc := 6) K ca_yX3_needMask ml_RX3_125 (t_X3_needMask _ K.nt K.ad s2 a1 (.ok v5) s6 h7) (Nat.le_of_ble_eq_true rfl) (by decide) (by decide) dX3_kth_6 ?_
      refine v_aload0 (pc := 9) K dX3_kth_9 ?_
      refine v_iload1 (pc := 10) K dX3_kth_10 ?_
      refine v_iload2 (pc := 11) K dX3_kth_11 ?_
      obtain ⟨v9, h10, h⟩ := bd h
      refine v_cV2U (pc := 12)  K ca_yX3_gather ml_RX3_166 (Nat.le_of_ble_eq_true rfl) rfl rfl (t_X3_gather _ K.nt K.ad s6 a0 a1 v9 h10) (Nat.le_of_ble_eq_true rfl) (by decide) (by decide) dX3_kth_12 ?_
      refine v_aload0 (pc := 15) K dX3_kth_15 ?_
      refine v_getR (pc := 16) K fl_RX3_25 dX3_kth_16 (Nat.le_of_ble_eq_true rfl) rfl rfl ?_
      refine v_ic0 (pc := 19) K dX3_kth_19 ?_
      obtain ⟨v11, h12, h⟩ := bd h
      refine v_cV1I (pc := 20)  K ca_yX0_putInOrder ml_RX3_169 (Nat.le_of_ble_eq_true rfl) rfl rfl (t_X0_putInOrder _ K.nt K.ad v9 (0 : Int32) v11 h12) (Nat.le_of_ble_eq_true rfl) (by decide) (by decide) dX3_kth_20 ?_
      refine v_popI (pc := 23) K dX3_kth_23 ?_
      refine v_aload0 (pc := 24) K dX3_kth_24 ?_
      refine v_getR (pc := 25) K fl_RX3_25 dX3_kth_25 (Nat.le_of_ble_eq_true rfl) rfl rfl ?_
      refine v_iload3 (pc := 28) K dX3_kth_28 ?_
      obtain ⟨t13, h15, h⟩ := bd h
      have hJ14 : V (mkX M YC E base 4 (rL r) σ') v11.2 45 [none, none, none, none] [.int t13, .ref (E.2.2 19)] := by
        obtain ⟨v17, h18, h⟩ := bd h
        refine v_cV1L (pc := 45)  K ca_yX0_numberOrNothing ml_RX3_202 (Nat.le_of_ble_eq_true rfl) rfl rfl (t_X0_numberOrNothing _ K.nt K.ad v11.2 t13 v17 h18) (Nat.le_of_ble_eq_true rfl) (by decide) (by decide) dX3_kth_45 ?_
        cases h
        exact v_lret (pc := 48) K dX3_kth_48 rfl rfl
      clear h
      have h := h15
      refine v_if_ge (pc := 29) (tgt := 44) K dX3_kth_29 (by decide) (fun c16 => ?_) (fun c16 => ?_)
      · have h := it c16 h
        refine v_iload3 (pc := 44) K dX3_kth_44 ?_
        cases h
        exact (v_fg [false, false, false, false] hJ14)
      · have h := ie c16 h
        refine v_aload0 (pc := 32) K dX3_kth_32 ?_
        refine v_getR (pc := 33) K fl_RX3_25 dX3_kth_33 (Nat.le_of_ble_eq_true rfl) rfl rfl ?_
        refine v_getI (pc := 36) K fl_RX3_173 dX3_kth_36 (Nat.le_of_ble_eq_true rfl) rfl rfl ?_
        refine v_iload3 (pc := 39) K dX3_kth_39 ?_
        refine v_iadd (pc := 40) K dX3_kth_40 ?_
        refine v_goto (pc := 41) (tgt := 45) K dX3_kth_41 (by decide) ?_
        cases h
        exact (v_fg [false, false, false, false] hJ14)
    · cases hF
      exact v_cS1X (pc := 6)  K ca_yX3_needMask ml_RX3_125 (t_X3_needMask _ K.nt K.ad s2 a1 (.error e8) _ h7) (Nat.le_of_ble_eq_true rfl) (by decide) (by decide) dX3_kth_6 hN rfl rfl
  · cases hF
    exact v_cV1X (pc := 2)  K ca_yX3_needColumn ml_RX3_66 (Nat.le_of_ble_eq_true rfl) rfl rfl (t_X3_needColumn _ K.nt K.ad σ a0 (.error e4) _ h3) (Nat.le_of_ble_eq_true rfl) (by decide) (by decide) dX3_kth_2 hN rfl rfl
set_option maxRecDepth 100000 in
def c_X3_share (σ : St) (a0 : Int32) (a1 : Int32) (a2 : Int32) (a3 : Int32) : Option (Except String Int64 × St) :=
  (xB (c_X3_needColumn σ a0) fun _ s2 => (xB (c_X3_needMask s2 a1) fun _ s6 => ((if a3 < (1 : Int32) then some (0 : Int32) else (if (1000 : Int32) < a3 then some (0 : Int32) else some (1 : Int32))).bind fun (t9 : Int32) => (xB (c_X3_needArgument s6 t9) fun _ s15 => ((if a2 < 0 then some (0 : Int32) else (if a3 < a2 then some (0 : Int32) else some (1 : Int32))).bind fun (t18 : Int32) => (xB (c_X3_needArgument s15 t18) fun _ s24 => ((c_X3_gather s24 a0 a1).bind fun v27 => ((c_X0_putInOrder v27 (0 : Int32)).bind fun v29 => (if a3 = 0 then none else ((c_J9_max_7cf53 v29.2 (((((a2 * v29.2.1 19 0) + a3) - (1 : Int32)) / a3) - (1 : Int32)) (0 : Int32)).bind fun v32 => ((c_X0_numberOrNothing v29.2 v32).bind fun v34 => some (.ok v34, v29.2))))))))))))
set_option maxHeartbeats 4000000 in
set_option maxRecDepth 100000 in
theorem t_X3_share (l : Launch) (hnt : l.stackTraces = false) {E : Ev} {base : Nat} (hE : Adr YC E base) (σ : St) (a0 : Int32) (a1 : Int32) (a2 : Int32) (a3 : Int32) (r : Except String Int64) (σ' : St) (h : c_X3_share σ a0 a1 a2 a3 = some (r, σ')) : Ctr l yX3_share cX3_share 6 (some .long) 7 121 YC E base [.ref (E.2.2 0), .int a0, .int a1, .int a2, .int a3] σ (rL r) σ' := by
  unfold c_X3_share at h
  refine ofV 1 (by decide +kernel) rfl hE hnt (Nat.le_of_ble_eq_true rfl) rfl (fun M hN K => ?_)
  refine v_aload0 (pc := 0) K dX3_share_0 ?_
  refine v_iload1 (pc := 1) K dX3_share_1 ?_
  rcases xb h with ⟨v1, s2, h3, h⟩ | ⟨e4, s2, h3, hF⟩
  · refine v_cV1U (pc := 2) K ca_yX3_needColumn ml_RX3_66 (Nat.le_of_ble_eq_true rfl) rfl rfl (t_X3_needColumn _ K.nt K.ad σ a0 (.ok v1) s2 h3) (Nat.le_of_ble_eq_true rfl) (by decide) (by decide) dX3_share_2 ?_
    refine v_iload2 (pc := 5) K dX3_share_5 ?_
    rcases xb h with ⟨v5, s6, h7, h⟩ | ⟨e8, s6, h7, hF⟩
    · refine v_cS1U (pc := 6) K ca_yX3_needMask ml_RX3_125 (t_X3_needMask _ K.nt K.ad s2 a1 (.ok v5) s6 h7) (Nat.le_of_ble_eq_true rfl) (by decide) (by decide) dX3_share_6 ?_
      refine v_iload4 (pc := 9) K dX3_share_9 ?_
      refine v_ic1 (pc := 11) K dX3_share_11 ?_
      obtain ⟨t9, h11, h⟩ := bd h
      have hJ10 : V (mkX M YC E base 6 (rL r) σ') s6 28 [some (.ref (E.2.2 0)), some (.int a0), some (.int a1), some (.int a2), some (.int a3), none] [.int t9] := by
        rcases xb h with ⟨v14, s15, h16, h⟩ | ⟨e17, s15, h16, hF⟩
        · refine v_cS1U (pc := 28) K ca_yX3_needArgument ml_RX3_73 (t_X3_needArgument _ K.nt K.ad s6 t9 (.ok v14) s15 h16) (Nat.le_of_ble_eq_true rfl) (by decide) (by decide) dX3_share_28 ?_
          refine v_iload3 (pc := 31) K dX3_share_31 ?_
          obtain ⟨t18, h20, h⟩ := bd h
          have hJ19 : V (mkX M YC E base 6 (rL r) σ') s15 46 [some (.ref (E.2.2 0)), some (.int a0), some (.int a1), some (.int a2), some (.int a3), none] [.int t18] := by
            rcases xb h with ⟨v23, s24, h25, h⟩ | ⟨e26, s24, h25, hF⟩
            · refine v_cS1U (pc := 46) K ca_yX3_needArgument ml_RX3_73 (t_X3_needArgument _ K.nt K.ad s15 t18 (.ok v23) s24 h25) (Nat.le_of_ble_eq_true rfl) (by decide) (by decide) dX3_share_46 ?_
              refine v_aload0 (pc := 49) K dX3_share_49 ?_
              refine v_iload1 (pc := 50) K dX3_share_50 ?_
              refine v_iload2 (pc := 51) K dX3_share_51 ?_
              obtain ⟨v27, h28, h⟩ := bd h
              refine v_cV2U (pc := 52)  K ca_yX3_gather ml_RX3_166 (Nat.le_of_ble_eq_true rfl) rfl rfl (t_X3_gather _ K.nt K.ad s24 a0 a1 v27 h28) (Nat.le_of_ble_eq_true rfl) (by decide) (by decide) dX3_share_52 ?_
              refine v_aload0 (pc := 55) K dX3_share_55 ?_
              refine v_getR (pc := 56) K fl_RX3_25 dX3_share_56 (Nat.le_of_ble_eq_true rfl) rfl rfl ?_
              refine v_ic0 (pc := 59) K dX3_share_59 ?_
              obtain ⟨v29, h30, h⟩ := bd h
              refine v_cV1I (pc := 60)  K ca_yX0_putInOrder ml_RX3_169 (Nat.le_of_ble_eq_true rfl) rfl rfl (t_X0_putInOrder _ K.nt K.ad v27 (0 : Int32) v29 h30) (Nat.le_of_ble_eq_true rfl) (by decide) (by decide) dX3_share_60 ?_
              refine v_popI (pc := 63) K dX3_share_63 ?_
              refine v_iload3 (pc := 64) K dX3_share_64 ?_
              refine v_aload0 (pc := 65) K dX3_share_65 ?_
              refine v_getR (pc := 66) K fl_RX3_25 dX3_share_66 (Nat.le_of_ble_eq_true rfl) rfl rfl ?_
              refine v_getI (pc := 69) K fl_RX3_173 dX3_share_69 (Nat.le_of_ble_eq_true rfl) rfl rfl ?_
              refine v_imul (pc := 72) K dX3_share_72 ?_
              refine v_iload4 (pc := 73) K dX3_share_73 ?_
              refine v_iadd (pc := 75) K dX3_share_75 ?_
              refine v_ic1 (pc := 76) K dX3_share_76 ?_
              refine v_isub (pc := 77) K dX3_share_77 ?_
              refine v_iload4 (pc := 78) K dX3_share_78 ?_
              by_cases c31 : a3 = 0
              · cases (it c31 h)
              have h := ie c31 h
              refine v_idiv (pc := 80) K dX3_share_80 c31 ?_
              refine v_istore5 (pc := 81) K dX3_share_81 rfl (Nat.le_of_ble_eq_true rfl) ?_
              refine v_aload0 (pc := 83) K dX3_share_83 ?_
              refine v_getR (pc := 84) K fl_RX3_25 dX3_share_84 (Nat.le_of_ble_eq_true rfl) rfl rfl ?_
              refine v_iload5 (pc := 87) K dX3_share_87 ?_
              refine v_ic1 (pc := 89) K dX3_share_89 ?_
              refine v_isub (pc := 90) K dX3_share_90 ?_
              refine v_ic0 (pc := 91) K dX3_share_91 ?_
              obtain ⟨v32, h33, h⟩ := bd h
              refine v_cS2I (pc := 92)  K ca_yJ9_max_7cf53 ml_RX3_205 (t_J9_max_7cf53 _ K.nt K.ad v29.2 (((((a2 * v29.2.1 19 0) + a3) - (1 : Int32)) / a3) - (1 : Int32)) (0 : Int32) v32 h33) (Nat.le_of_ble_eq_true rfl) (by decide) (by decide) dX3_share_92 ?_
              obtain ⟨v34, h35, h⟩ := bd h
              refine v_cV1L (pc := 95)  K ca_yX0_numberOrNothing ml_RX3_202 (Nat.le_of_ble_eq_true rfl) rfl rfl (t_X0_numberOrNothing _ K.nt K.ad v29.2 v32 v34 h35) (Nat.le_of_ble_eq_true rfl) (by decide) (by decide) dX3_share_95 ?_
              cases h
              exact v_lret (pc := 98) K dX3_share_98 rfl rfl
            · cases hF
              exact v_cS1X (pc := 46)  K ca_yX3_needArgument ml_RX3_73 (t_X3_needArgument _ K.nt K.ad s15 t18 (.error e26) _ h25) (Nat.le_of_ble_eq_true rfl) (by decide) (by decide) dX3_share_46 hN rfl rfl
          clear h
          have h := h20
          refine v_if_lt (pc := 32) (tgt := 45) K dX3_share_32 (by decide) (fun c21 => ?_) (fun c21 => ?_)
          · have h := it c21 h
            refine v_ic0 (pc := 45) K dX3_share_45 ?_
            cases h
            exact hJ19
          · have h := ie c21 h
            refine v_iload3 (pc := 35) K dX3_share_35 ?_
            refine v_iload4 (pc := 36) K dX3_share_36 ?_
            refine v_icmp_gt (pc := 38) (tgt := 45) K dX3_share_38 (by decide) (fun c22 => ?_) (fun c22 => ?_)
            · have h := it c22 h
              refine v_ic0 (pc := 45) K dX3_share_45 ?_
              cases h
              exact hJ19
            · have h := ie c22 h
              refine v_ic1 (pc := 41) K dX3_share_41 ?_
              refine v_goto (pc := 42) (tgt := 46) K dX3_share_42 (by decide) ?_
              cases h
              exact hJ19
        · cases hF
          exact v_cS1X (pc := 28)  K ca_yX3_needArgument ml_RX3_73 (t_X3_needArgument _ K.nt K.ad s6 t9 (.error e17) _ h16) (Nat.le_of_ble_eq_true rfl) (by decide) (by decide) dX3_share_28 hN rfl rfl
      clear h
      have h := h11
      refine v_icmp_lt (pc := 12) (tgt := 27) K dX3_share_12 (by decide) (fun c12 => ?_) (fun c12 => ?_)
      · have h := it c12 h
        refine v_ic0 (pc := 27) K dX3_share_27 ?_
        cases h
        exact hJ10
      · have h := ie c12 h
        refine v_iload4 (pc := 15) K dX3_share_15 ?_
        refine v_sipush (pc := 17) (v := 1000) K dX3_share_17 (by decide) ?_
        refine v_icmp_gt (pc := 20) (tgt := 27) K dX3_share_20 (by decide) (fun c13 => ?_) (fun c13 => ?_)
        · have h := it c13 h
          refine v_ic0 (pc := 27) K dX3_share_27 ?_
          cases h
          exact hJ10
        · have h := ie c13 h
          refine v_ic1 (pc := 23) K dX3_share_23 ?_
          refine v_goto (pc := 24) (tgt := 28) K dX3_share_24 (by decide) ?_
          cases h
          exact hJ10
    · cases hF
      exact v_cS1X (pc := 6)  K ca_yX3_needMask ml_RX3_125 (t_X3_needMask _ K.nt K.ad s2 a1 (.error e8) _ h7) (Nat.le_of_ble_eq_true rfl) (by decide) (by decide) dX3_share_6 hN rfl rfl
  · cases hF
    exact v_cV1X (pc := 2)  K ca_yX3_needColumn ml_RX3_66 (Nat.le_of_ble_eq_true rfl) rfl rfl (t_X3_needColumn _ K.nt K.ad σ a0 (.error e4) _ h3) (Nat.le_of_ble_eq_true rfl) (by decide) (by decide) dX3_share_2 hN rfl rfl
set_option maxRecDepth 100000 in
def c_X3_upset (σ : St) (a0 : Int32) (a1 : Int32) : Option (Except String Int32 × St) :=
  (xB (c_X3_needColumn σ a0) fun _ s2 => (xB (c_X3_needMask s2 a1) fun _ s6 => ((c_X3_gather s6 a0 a1).bind fun v9 => ((c_X0_putInOrder v9 (0 : Int32)).bind fun v11 => some (.ok v11.1, v11.2)))))
set_option maxHeartbeats 4000000 in
set_option maxRecDepth 100000 in
theorem t_X3_upset (l : Launch) (hnt : l.stackTraces = false) {E : Ev} {base : Nat} (hE : Adr YC E base) (σ : St) (a0 : Int32) (a1 : Int32) (r : Except String Int32) (σ' : St) (h : c_X3_upset σ a0 a1 = some (r, σ')) : Ctr l yX3_upset cX3_upset 3 (some .int) 7 121 YC E base [.ref (E.2.2 0), .int a0, .int a1] σ (rI r) σ' := by
  unfold c_X3_upset at h
  refine ofV 0 (by decide +kernel) rfl hE hnt (Nat.le_of_ble_eq_true rfl) rfl (fun M hN K => ?_)
  refine v_aload0 (pc := 0) K dX3_upset_0 ?_
  refine v_iload1 (pc := 1) K dX3_upset_1 ?_
  rcases xb h with ⟨v1, s2, h3, h⟩ | ⟨e4, s2, h3, hF⟩
  · refine v_cV1U (pc := 2) K ca_yX3_needColumn ml_RX3_66 (Nat.le_of_ble_eq_true rfl) rfl rfl (t_X3_needColumn _ K.nt K.ad σ a0 (.ok v1) s2 h3) (Nat.le_of_ble_eq_true rfl) (by decide) (by decide) dX3_upset_2 ?_
    refine v_iload2 (pc := 5) K dX3_upset_5 ?_
    rcases xb h with ⟨v5, s6, h7, h⟩ | ⟨e8, s6, h7, hF⟩
    · refine v_cS1U (pc := 6) K ca_yX3_needMask ml_RX3_125 (t_X3_needMask _ K.nt K.ad s2 a1 (.ok v5) s6 h7) (Nat.le_of_ble_eq_true rfl) (by decide) (by decide) dX3_upset_6 ?_
      refine v_aload0 (pc := 9) K dX3_upset_9 ?_
      refine v_iload1 (pc := 10) K dX3_upset_10 ?_
      refine v_iload2 (pc := 11) K dX3_upset_11 ?_
      obtain ⟨v9, h10, h⟩ := bd h
      refine v_cV2U (pc := 12)  K ca_yX3_gather ml_RX3_166 (Nat.le_of_ble_eq_true rfl) rfl rfl (t_X3_gather _ K.nt K.ad s6 a0 a1 v9 h10) (Nat.le_of_ble_eq_true rfl) (by decide) (by decide) dX3_upset_12 ?_
      refine v_aload0 (pc := 15) K dX3_upset_15 ?_
      refine v_getR (pc := 16) K fl_RX3_25 dX3_upset_16 (Nat.le_of_ble_eq_true rfl) rfl rfl ?_
      refine v_ic0 (pc := 19) K dX3_upset_19 ?_
      obtain ⟨v11, h12, h⟩ := bd h
      refine v_cV1I (pc := 20)  K ca_yX0_putInOrder ml_RX3_169 (Nat.le_of_ble_eq_true rfl) rfl rfl (t_X0_putInOrder _ K.nt K.ad v9 (0 : Int32) v11 h12) (Nat.le_of_ble_eq_true rfl) (by decide) (by decide) dX3_upset_20 ?_
      cases h
      exact v_iret (pc := 23) K dX3_upset_23 rfl rfl
    · cases hF
      exact v_cS1X (pc := 6)  K ca_yX3_needMask ml_RX3_125 (t_X3_needMask _ K.nt K.ad s2 a1 (.error e8) _ h7) (Nat.le_of_ble_eq_true rfl) (by decide) (by decide) dX3_upset_6 hN rfl rfl
  · cases hF
    exact v_cV1X (pc := 2)  K ca_yX3_needColumn ml_RX3_66 (Nat.le_of_ble_eq_true rfl) rfl rfl (t_X3_needColumn _ K.nt K.ad σ a0 (.error e4) _ h3) (Nat.le_of_ble_eq_true rfl) (by decide) (by decide) dX3_upset_2 hN rfl rfl
set_option maxRecDepth 100000 in
def c_X0_howMany (σ : St) (a0 : Int32) (a1 : Int64) : Option (Int32) :=
  ((lp 5000 (fun (s1 : Int32 × Int32) => (if σ.1 19 0 ≤ s1.2 then some (.inr s1.1) else ((ix s1.2 192).bind fun j9 => ((c_X3_stands σ (σ.2 21 j9) a0 a1).bind fun v11 => ((if v11 = 0 then some (0 : Int32) else some (1 : Int32)).bind fun (t13 : Int32) => some (.inl ((s1.1 + t13), (s1.2 + 1)))))))) ((0 : Int32), (0 : Int32))).bind fun (r2 : Int32) => some r2)
set_option maxHeartbeats 4000000 in
set_option maxRecDepth 100000 in
theorem t_X0_howMany (l : Launch) (hnt : l.stackTraces = false) {E : Ev} {base : Nat} (hE : Adr YC E base) (σ : St) (a0 : Int32) (a1 : Int64) (r : Int32) (h : c_X0_howMany σ a0 a1 = some r) : Ctr l yX0_howMany cX0_howMany 6 (some .int) 1 24 YC E base [.ref (E.2.2 19), .int a0, .long a1] σ (.ok (some (.int r))) σ := by
  unfold c_X0_howMany at h
  refine ofV 2 (by decide +kernel) rfl hE hnt (Nat.le_of_ble_eq_true rfl) rfl (fun M hN K => ?_)
  refine v_ic0 (pc := 0) K dX0_howMany_0 ?_
  refine v_istore4 (pc := 1) K dX0_howMany_1 rfl (Nat.le_of_ble_eq_true rfl) ?_
  refine v_ic0 (pc := 3) K dX0_howMany_3 ?_
  refine v_istore5 (pc := 4) K dX0_howMany_4 rfl (Nat.le_of_ble_eq_true rfl) ?_
  obtain ⟨r2, h4, h⟩ := bd h
  have hJ3 : V (mkX M YC E base 6 (.ok (some (.int r))) σ) σ 46 [none, none, none, none, some (.int r2), none] [] := by
    refine v_iload4 (pc := 46) K dX0_howMany_46 ?_
    cases h
    exact v_iret (pc := 48) K dX0_howMany_48 rfl rfl
  clear h
  have hL17 := lpv h4 (fun s1 : Int32 × Int32 => V (mkX M YC E base 6 (.ok (some (.int r))) σ) σ 6 [some (.ref (E.2.2 19)), some (.int a0), some (.long a1), none, some (.int s1.1), some (.int s1.2)] [])
  refine hL17 (fun s1 o h hk => ?_)
  refine v_iload5 (pc := 6) K dX0_howMany_6 ?_
  refine v_aload0 (pc := 8) K dX0_howMany_8 ?_
  refine v_getI (pc := 9) K fl_RX0_25 dX0_howMany_9 (Nat.le_of_ble_eq_true rfl) rfl rfl ?_
  refine v_icmp_ge (pc := 12) (tgt := 46) K dX0_howMany_12 (by decide) (fun c8 => ?_) (fun c8 => ?_)
  · have h := it c8 h
    have e := lx h hk
    cases e
    exact v_fg [false, false, false, true, true, false] hJ3
  · have h := ie c8 h
    refine v_iload4 (pc := 15) K dX0_howMany_15 ?_
    refine v_aload0 (pc := 17) K dX0_howMany_17 ?_
    refine v_getR (pc := 18) K fl_RX0_15 dX0_howMany_18 (Nat.le_of_ble_eq_true rfl) rfl rfl ?_
    refine v_iload5 (pc := 21) K dX0_howMany_21 ?_
    obtain ⟨j9, h10, h⟩ := bd h
    refine v_laload (pc := 23) K dX0_howMany_23 (Nat.le_of_ble_eq_true rfl) rfl h10 ?_
    refine v_iload1 (pc := 24) K dX0_howMany_24 ?_
    refine v_lload2 (pc := 25) K dX0_howMany_25 ?_
    obtain ⟨v11, h12, h⟩ := bd h
    refine v_cN3I (pc := 26) (host := "SliceColumns") K ca_yX3_stands (by decide +kernel) (t_X3_stands _ K.nt K.ad σ (σ.2 21 j9) a0 a1 v11 h12) (Nat.le_of_ble_eq_true rfl) (by decide) (by decide) dX0_howMany_26 ?_
    obtain ⟨t13, h15, h⟩ := bd h
    have hJ14 : V (mkX M YC E base 6 (.ok (some (.int r))) σ) σ 37 [some (.ref (E.2.2 19)), some (.int a0), some (.long a1), none, none, some (.int s1.2)] [.int t13, .int s1.1] := by
      refine v_iadd (pc := 37) K dX0_howMany_37 ?_
      refine v_istore4 (pc := 38) K dX0_howMany_38 rfl (Nat.le_of_ble_eq_true rfl) ?_
      refine v_iinc5 (pc := 40) (w := 1) K dX0_howMany_40 rfl (Nat.le_of_ble_eq_true rfl) (by decide) ?_
      refine v_goto (pc := 43) (tgt := 6) K dX0_howMany_43 (by decide) ?_
      have e := lfc h hk
      exact e
    clear h
    have h := h15
    refine v_if_eq (pc := 29) (tgt := 36) K dX0_howMany_29 (by decide) (fun c16 => ?_) (fun c16 => ?_)
    · have h := it c16 h
      refine v_ic0 (pc := 36) K dX0_howMany_36 ?_
      cases h
      exact (v_fg [true, true, true, true, false, true] hJ14)
    · have h := ie c16 h
      refine v_ic1 (pc := 32) K dX0_howMany_32 ?_
      refine v_goto (pc := 33) (tgt := 37) K dX0_howMany_33 (by decide) ?_
      cases h
      exact (v_fg [true, true, true, true, false, true] hJ14)
set_option maxRecDepth 100000 in
def c_X3_rank (σ : St) (a0 : Int32) (a1 : Int32) (a2 : Int64) (a3 : Int32) : Option (Except String Int32 × St) :=
  (xB (c_X3_needColumn σ a0) fun _ s2 => (xB (c_X3_needMask s2 a1) fun _ s6 => ((if a3 < 0 then some (0 : Int32) else (if (2 : Int32) < a3 then some (0 : Int32) else some (1 : Int32))).bind fun (t9 : Int32) => (xB (c_X3_needArgument s6 t9) fun _ s15 => ((c_X3_gather s15 a0 a1).bind fun v18 => (if a3 = 0 then ((c_X0_howMany v18 (0 : Int32) a2).bind fun v27 => some (.ok v27, v18)) else ((if a3 = (1 : Int32) then some (2 : Int32) else some (5 : Int32)).bind fun (t21 : Int32) => ((c_X0_howMany v18 t21 a2).bind fun v25 => some (.ok v25, v18)))))))))
set_option maxHeartbeats 4000000 in
set_option maxRecDepth 100000 in
theorem t_X3_rank (l : Launch) (hnt : l.stackTraces = false) {E : Ev} {base : Nat} (hE : Adr YC E base) (σ : St) (a0 : Int32) (a1 : Int32) (a2 : Int64) (a3 : Int32) (r : Except String Int32) (σ' : St) (h : c_X3_rank σ a0 a1 a2 a3 = some (r, σ')) : Ctr l yX3_rank cX3_rank 6 (some .int) 7 121 YC E base [.ref (E.2.2 0), .int a0, .int a1, .long a2, .int a3] σ (rI r) σ' := by
  unfold c_X3_rank at h
  refine ofV 0 (by decide +kernel) rfl hE hnt (Nat.le_of_ble_eq_true rfl) rfl (fun M hN K => ?_)
  refine v_aload0 (pc := 0) K dX3_rank_0 ?_
  refine v_iload1 (pc := 1) K dX3_rank_1 ?_
  rcases xb h with ⟨v1, s2, h3, h⟩ | ⟨e4, s2, h3, hF⟩
  · refine v_cV1U (pc := 2) K ca_yX3_needColumn ml_RX3_66 (Nat.le_of_ble_eq_true rfl) rfl rfl (t_X3_needColumn _ K.nt K.ad σ a0 (.ok v1) s2 h3) (Nat.le_of_ble_eq_true rfl) (by decide) (by decide) dX3_rank_2 ?_
    refine v_iload2 (pc := 5) K dX3_rank_5 ?_
    rcases xb h with ⟨v5, s6, h7, h⟩ | ⟨e8, s6, h7, hF⟩
    · refine v_cS1U (pc := 6) K ca_yX3_needMask ml_RX3_125 (t_X3_needMask _ K.nt K.ad s2 a1 (.ok v5) s6 h7) (Nat.le_of_ble_eq_true rfl) (by decide) (by decide) dX3_rank_6 ?_
      refine v_iload5 (pc := 9) K dX3_rank_9 ?_
      obtain ⟨t9, h11, h⟩ := bd h
      have hJ10 : V (mkX M YC E base 6 (rI r) σ') s6 25 [some (.ref (E.2.2 0)), some (.int a0), some (.int a1), some (.long a2), none, some (.int a3)] [.int t9] := by
        rcases xb h with ⟨v14, s15, h16, h⟩ | ⟨e17, s15, h16, hF⟩
        · refine v_cS1U (pc := 25) K ca_yX3_needArgument ml_RX3_73 (t_X3_needArgument _ K.nt K.ad s6 t9 (.ok v14) s15 h16) (Nat.le_of_ble_eq_true rfl) (by decide) (by decide) dX3_rank_25 ?_
          refine v_aload0 (pc := 28) K dX3_rank_28 ?_
          refine v_iload1 (pc := 29) K dX3_rank_29 ?_
          refine v_iload2 (pc := 30) K dX3_rank_30 ?_
          obtain ⟨v18, h19, h⟩ := bd h
          refine v_cV2U (pc := 31)  K ca_yX3_gather ml_RX3_166 (Nat.le_of_ble_eq_true rfl) rfl rfl (t_X3_gather _ K.nt K.ad s15 a0 a1 v18 h19) (Nat.le_of_ble_eq_true rfl) (by decide) (by decide) dX3_rank_31 ?_
          refine v_iload5 (pc := 34) K dX3_rank_34 ?_
          refine v_if_ne (pc := 36) (tgt := 49) K dX3_rank_36 (by decide) (fun c20 => ?_) (fun c20 => ?_)
          · have h := ie c20 h
            refine v_aload0 (pc := 49) K dX3_rank_49 ?_
            refine v_getR (pc := 50) K fl_RX3_25 dX3_rank_50 (Nat.le_of_ble_eq_true rfl) rfl rfl ?_
            refine v_iload5 (pc := 53) K dX3_rank_53 ?_
            refine v_ic1 (pc := 55) K dX3_rank_55 ?_
            obtain ⟨t21, h23, h⟩ := bd h
            have hJ22 : V (mkX M YC E base 6 (rI r) σ') v18 64 [none, none, none, some (.long a2), none, none] [.int t21, .ref (E.2.2 19)] := by
              refine v_lload3 (pc := 64) K dX3_rank_64 ?_
              obtain ⟨v25, h26, h⟩ := bd h
              refine v_cV2I (pc := 65)  K ca_yX0_howMany ml_RX3_209 (Nat.le_of_ble_eq_true rfl) rfl rfl (t_X0_howMany _ K.nt K.ad v18 t21 a2 v25 h26) (Nat.le_of_ble_eq_true rfl) (by decide) (by decide) dX3_rank_65 ?_
              cases h
              exact v_iret (pc := 68) K dX3_rank_68 rfl rfl
            clear h
            have h := h23
            refine v_icmp_ne (pc := 56) (tgt := 63) K dX3_rank_56 (by decide) (fun c24 => ?_) (fun c24 => ?_)
            · have h := ie c24 h
              refine v_ic5 (pc := 63) K dX3_rank_63 ?_
              cases h
              exact (v_fg [false, false, false, true, true, false] hJ22)
            · have h := it c24 h
              refine v_ic2 (pc := 59) K dX3_rank_59 ?_
              refine v_goto (pc := 60) (tgt := 64) K dX3_rank_60 (by decide) ?_
              cases h
              exact (v_fg [false, false, false, true, true, false] hJ22)
          · have h := it c20 h
            refine v_aload0 (pc := 39) K dX3_rank_39 ?_
            refine v_getR (pc := 40) K fl_RX3_25 dX3_rank_40 (Nat.le_of_ble_eq_true rfl) rfl rfl ?_
            refine v_ic0 (pc := 43) K dX3_rank_43 ?_
            refine v_lload3 (pc := 44) K dX3_rank_44 ?_
            obtain ⟨v27, h28, h⟩ := bd h
            refine v_cV2I (pc := 45)  K ca_yX0_howMany ml_RX3_209 (Nat.le_of_ble_eq_true rfl) rfl rfl (t_X0_howMany _ K.nt K.ad v18 (0 : Int32) a2 v27 h28) (Nat.le_of_ble_eq_true rfl) (by decide) (by decide) dX3_rank_45 ?_
            cases h
            exact v_iret (pc := 48) K dX3_rank_48 rfl rfl
        · cases hF
          exact v_cS1X (pc := 25)  K ca_yX3_needArgument ml_RX3_73 (t_X3_needArgument _ K.nt K.ad s6 t9 (.error e17) _ h16) (Nat.le_of_ble_eq_true rfl) (by decide) (by decide) dX3_rank_25 hN rfl rfl
      clear h
      have h := h11
      refine v_if_lt (pc := 11) (tgt := 24) K dX3_rank_11 (by decide) (fun c12 => ?_) (fun c12 => ?_)
      · have h := it c12 h
        refine v_ic0 (pc := 24) K dX3_rank_24 ?_
        cases h
        exact hJ10
      · have h := ie c12 h
        refine v_iload5 (pc := 14) K dX3_rank_14 ?_
        refine v_ic2 (pc := 16) K dX3_rank_16 ?_
        refine v_icmp_gt (pc := 17) (tgt := 24) K dX3_rank_17 (by decide) (fun c13 => ?_) (fun c13 => ?_)
        · have h := it c13 h
          refine v_ic0 (pc := 24) K dX3_rank_24 ?_
          cases h
          exact hJ10
        · have h := ie c13 h
          refine v_ic1 (pc := 20) K dX3_rank_20 ?_
          refine v_goto (pc := 21) (tgt := 25) K dX3_rank_21 (by decide) ?_
          cases h
          exact hJ10
    · cases hF
      exact v_cS1X (pc := 6)  K ca_yX3_needMask ml_RX3_125 (t_X3_needMask _ K.nt K.ad s2 a1 (.error e8) _ h7) (Nat.le_of_ble_eq_true rfl) (by decide) (by decide) dX3_rank_6 hN rfl rfl
  · cases hF
    exact v_cV1X (pc := 2)  K ca_yX3_needColumn ml_RX3_66 (Nat.le_of_ble_eq_true rfl) rfl rfl (t_X3_needColumn _ K.nt K.ad σ a0 (.error e4) _ h3) (Nat.le_of_ble_eq_true rfl) (by decide) (by decide) dX3_rank_2 hN rfl rfl
set_option maxRecDepth 100000 in
def c_X3_unlike (σ : St) (a0 : Int32) (a1 : Int32) (a2 : Int32) : Option (Except String Int64 × St) :=
  (xB (c_X3_needColumn σ a0) fun _ s2 => (xB (c_X3_needMask s2 a1) fun _ s6 => ((if a2 < 0 then some (0 : Int32) else (if (2 : Int32) < a2 then some (0 : Int32) else some (1 : Int32))).bind fun (t9 : Int32) => (xB (c_X3_needArgument s6 t9) fun _ s15 => ((c_X3_gather s15 a0 a1).bind fun v18 => ((c_X0_putInOrder v18 (0 : Int32)).bind fun v20 => ((lp 5000 (fun (s22 : Int32 × Int32 × Int64 × Int32 × Int32) => (if v20.2.1 19 0 ≤ s22.2.2.2.2 then some (.inr (s22.1, s22.2.1, s22.2.2.1)) else ((if s22.2.2.2.2 ≤ 0 then some (0 : Int32) else ((ix s22.2.2.2.2 192).bind fun j34 => ((ix (s22.2.2.2.2 - (1 : Int32)) 192).bind fun j36 => (if v20.2.2 21 j34 = v20.2.2 21 j36 then some (1 : Int32) else some (0 : Int32))))).bind fun (t30 : Int32) => ((if t30 = 0 then some (1 : Int32) else some (s22.2.2.2.1 + (1 : Int32))).bind fun (t39 : Int32) => ((if t30 = 0 then some (1 : Int32) else some (0 : Int32)).bind fun (t43 : Int32) => ((if t39 ≤ s22.2.1 then some (s22.2.1, s22.2.2.1) else ((ix s22.2.2.2.2 192).bind fun j51 => some (t39, v20.2.2 21 j51))).bind fun (t47 : Int32 × Int64) => some (.inl ((s22.1 + t43), t47.1, t47.2, t39, (s22.2.2.2.2 + 1))))))))) ((0 : Int32), (0 : Int32), ((-9223372036854775808) : Int64), (0 : Int32), (0 : Int32))).bind fun (r23 : Int32 × Int32 × Int64) => (if a2 = 0 then some (.ok ((r23.1).toInt64), v20.2) else ((if a2 = (1 : Int32) then some r23.2.2 else some ((r23.2.1).toInt64)).bind fun (t54 : Int64) => some (.ok t54, v20.2))))))))))
set_option maxHeartbeats 4000000 in
set_option maxRecDepth 100000 in
theorem t_X3_unlike (l : Launch) (hnt : l.stackTraces = false) {E : Ev} {base : Nat} (hE : Adr YC E base) (σ : St) (a0 : Int32) (a1 : Int32) (a2 : Int32) (r : Except String Int64) (σ' : St) (h : c_X3_unlike σ a0 a1 a2 = some (r, σ')) : Ctr l yX3_unlike cX3_unlike 11 (some .long) 7 121 YC E base [.ref (E.2.2 0), .int a0, .int a1, .int a2] σ (rL r) σ' := by
  unfold c_X3_unlike at h
  refine ofV 7 (by decide +kernel) rfl hE hnt (Nat.le_of_ble_eq_true rfl) rfl (fun M hN K => ?_)
  refine v_aload0 (pc := 0) K dX3_unlike_0 ?_
  refine v_iload1 (pc := 1) K dX3_unlike_1 ?_
  rcases xb h with ⟨v1, s2, h3, h⟩ | ⟨e4, s2, h3, hF⟩
  · refine v_cV1U (pc := 2) K ca_yX3_needColumn ml_RX3_66 (Nat.le_of_ble_eq_true rfl) rfl rfl (t_X3_needColumn _ K.nt K.ad σ a0 (.ok v1) s2 h3) (Nat.le_of_ble_eq_true rfl) (by decide) (by decide) dX3_unlike_2 ?_
    refine v_iload2 (pc := 5) K dX3_unlike_5 ?_
    rcases xb h with ⟨v5, s6, h7, h⟩ | ⟨e8, s6, h7, hF⟩
    · refine v_cS1U (pc := 6) K ca_yX3_needMask ml_RX3_125 (t_X3_needMask _ K.nt K.ad s2 a1 (.ok v5) s6 h7) (Nat.le_of_ble_eq_true rfl) (by decide) (by decide) dX3_unlike_6 ?_
      refine v_iload3 (pc := 9) K dX3_unlike_9 ?_
      obtain ⟨t9, h11, h⟩ := bd h
      have hJ10 : V (mkX M YC E base 11 (rL r) σ') s6 23 [some (.ref (E.2.2 0)), some (.int a0), some (.int a1), some (.int a2), none, none, none, none, none, none, none] [.int t9] := by
        rcases xb h with ⟨v14, s15, h16, h⟩ | ⟨e17, s15, h16, hF⟩
        · refine v_cS1U (pc := 23) K ca_yX3_needArgument ml_RX3_73 (t_X3_needArgument _ K.nt K.ad s6 t9 (.ok v14) s15 h16) (Nat.le_of_ble_eq_true rfl) (by decide) (by decide) dX3_unlike_23 ?_
          refine v_aload0 (pc := 26) K dX3_unlike_26 ?_
          refine v_iload1 (pc := 27) K dX3_unlike_27 ?_
          refine v_iload2 (pc := 28) K dX3_unlike_28 ?_
          obtain ⟨v18, h19, h⟩ := bd h
          refine v_cV2U (pc := 29)  K ca_yX3_gather ml_RX3_166 (Nat.le_of_ble_eq_true rfl) rfl rfl (t_X3_gather _ K.nt K.ad s15 a0 a1 v18 h19) (Nat.le_of_ble_eq_true rfl) (by decide) (by decide) dX3_unlike_29 ?_
          refine v_aload0 (pc := 32) K dX3_unlike_32 ?_
          refine v_getR (pc := 33) K fl_RX3_25 dX3_unlike_33 (Nat.le_of_ble_eq_true rfl) rfl rfl ?_
          refine v_ic0 (pc := 36) K dX3_unlike_36 ?_
          obtain ⟨v20, h21, h⟩ := bd h
          refine v_cV1I (pc := 37)  K ca_yX0_putInOrder ml_RX3_169 (Nat.le_of_ble_eq_true rfl) rfl rfl (t_X0_putInOrder _ K.nt K.ad v18 (0 : Int32) v20 h21) (Nat.le_of_ble_eq_true rfl) (by decide) (by decide) dX3_unlike_37 ?_
          refine v_popI (pc := 40) K dX3_unlike_40 ?_
          refine v_ic0 (pc := 41) K dX3_unlike_41 ?_
          refine v_istore4 (pc := 42) K dX3_unlike_42 rfl (Nat.le_of_ble_eq_true rfl) ?_
          refine v_ic0 (pc := 44) K dX3_unlike_44 ?_
          refine v_istore5 (pc := 45) K dX3_unlike_45 rfl (Nat.le_of_ble_eq_true rfl) ?_
          refine v_ldc2 (pc := 47) K dX3_unlike_47 cl_RX3_90 ?_
          refine v_lstore6 (pc := 50) K dX3_unlike_50 rfl (Nat.le_of_ble_eq_true rfl) ?_
          refine v_ic0 (pc := 52) K dX3_unlike_52 ?_
          refine v_istore8 (pc := 53) K dX3_unlike_53 rfl (Nat.le_of_ble_eq_true rfl) ?_
          refine v_ic0 (pc := 55) K dX3_unlike_55 ?_
          refine v_istore9 (pc := 56) K dX3_unlike_56 rfl (Nat.le_of_ble_eq_true rfl) ?_
          obtain ⟨r23, h25, h⟩ := bd h
          have hJ24 : V (mkX M YC E base 11 (rL r) σ') v20.2 167 [none, none, none, some (.int a2), some (.int r23.1), some (.int r23.2.1), some (.long r23.2.2), none, none, none, none] [] := by
            refine v_iload3 (pc := 167) K dX3_unlike_167 ?_
            refine v_if_ne (pc := 168) (tgt := 175) K dX3_unlike_168 (by decide) (fun c53 => ?_) (fun c53 => ?_)
            · have h := ie c53 h
              refine v_iload3 (pc := 175) K dX3_unlike_175 ?_
              refine v_ic1 (pc := 176) K dX3_unlike_176 ?_
              obtain ⟨t54, h56, h⟩ := bd h
              have hJ55 : V (mkX M YC E base 11 (rL r) σ') v20.2 188 [none, none, none, none, none, none, none, none, none, none, none] [.long t54] := by
                cases h
                exact v_lret (pc := 188) K dX3_unlike_188 rfl rfl
              clear h
              have h := h56
              refine v_icmp_ne (pc := 177) (tgt := 185) K dX3_unlike_177 (by decide) (fun c57 => ?_) (fun c57 => ?_)
              · have h := ie c57 h
                refine v_iload5 (pc := 185) K dX3_unlike_185 ?_
                refine v_i2l (pc := 187) K dX3_unlike_187 ?_
                cases h
                exact (v_fg [true, true, true, false, false, false, false, true, true, true, true] hJ55)
              · have h := it c57 h
                refine v_lload6 (pc := 180) K dX3_unlike_180 ?_
                refine v_goto (pc := 182) (tgt := 188) K dX3_unlike_182 (by decide) ?_
                cases h
                exact (v_fg [true, true, true, false, false, false, false, true, true, true, true] hJ55)
            · have h := it c53 h
              refine v_iload4 (pc := 171) K dX3_unlike_171 ?_
              refine v_i2l (pc := 173) K dX3_unlike_173 ?_
              cases h
              exact v_lret (pc := 174) K dX3_unlike_174 rfl rfl
          clear h
          refine v_fg [true, false, false, true, true, true, true, true, true, true, true] ?_
          have hL58 := lpv h25 (fun s22 : Int32 × Int32 × Int64 × Int32 × Int32 => V (mkX M YC E base 11 (rL r) σ') v20.2 58 [some (.ref (E.2.2 0)), none, none, some (.int a2), some (.int s22.1), some (.int s22.2.1), some (.long s22.2.2.1), none, some (.int s22.2.2.2.1), some (.int s22.2.2.2.2), none] [])
          refine hL58 (fun s22 o h hk => ?_)
          refine v_iload9 (pc := 58) K dX3_unlike_58 ?_
          refine v_aload0 (pc := 60) K dX3_unlike_60 ?_
          refine v_getR (pc := 61) K fl_RX3_25 dX3_unlike_61 (Nat.le_of_ble_eq_true rfl) rfl rfl ?_
          refine v_getI (pc := 64) K fl_RX3_173 dX3_unlike_64 (Nat.le_of_ble_eq_true rfl) rfl rfl ?_
          refine v_icmp_ge (pc := 67) (tgt := 167) K dX3_unlike_67 (by decide) (fun c29 => ?_) (fun c29 => ?_)
          · have h := it c29 h
            have e := lx h hk
            cases e
            exact v_fg [false, true, true, true, true, true, true, true, false, false, true] hJ24
          · have h := ie c29 h
            refine v_iload9 (pc := 70) K dX3_unlike_70 ?_
            obtain ⟨t30, h32, h⟩ := bd h
            have hJ31 : V (mkX M YC E base 11 (rL r) σ') v20.2 106 [some (.ref (E.2.2 0)), none, none, some (.int a2), some (.int s22.1), some (.int s22.2.1), some (.long s22.2.2.1), none, some (.int s22.2.2.2.1), some (.int s22.2.2.2.2), none] [.int t30] := by
              refine v_istore10 (pc := 106) K dX3_unlike_106 rfl (Nat.le_of_ble_eq_true rfl) ?_
              refine v_iload10 (pc := 108) K dX3_unlike_108 ?_
              obtain ⟨t39, h41, h⟩ := bd h
              have hJ40 : V (mkX M YC E base 11 (rL r) σ') v20.2 121 [some (.ref (E.2.2 0)), none, none, some (.int a2), some (.int s22.1), some (.int s22.2.1), some (.long s22.2.2.1), none, none, some (.int s22.2.2.2.2), some (.int t30)] [.int t39] := by
                refine v_istore8 (pc := 121) K dX3_unlike_121 rfl (Nat.le_of_ble_eq_true rfl) ?_
                refine v_iload4 (pc := 123) K dX3_unlike_123 ?_
                refine v_iload10 (pc := 125) K dX3_unlike_125 ?_
                obtain ⟨t43, h45, h⟩ := bd h
                have hJ44 : V (mkX M YC E base 11 (rL r) σ') v20.2 135 [some (.ref (E.2.2 0)), none, none, some (.int a2), none, some (.int s22.2.1), some (.long s22.2.2.1), none, some (.int t39), some (.int s22.2.2.2.2), none] [.int t43, .int s22.1] := by
                  refine v_iadd (pc := 135) K dX3_unlike_135 ?_
                  refine v_istore4 (pc := 136) K dX3_unlike_136 rfl (Nat.le_of_ble_eq_true rfl) ?_
                  refine v_iload8 (pc := 138) K dX3_unlike_138 ?_
                  refine v_iload5 (pc := 140) K dX3_unlike_140 ?_
                  obtain ⟨t47, h49, h⟩ := bd h
                  have hJ48 : V (mkX M YC E base 11 (rL r) σ') v20.2 161 [some (.ref (E.2.2 0)), none, none, some (.int a2), some (.int (s22.1 + t43)), some (.int t47.1), some (.long t47.2), none, some (.int t39), some (.int s22.2.2.2.2), none] [] := by
                    refine v_iinc9 (pc := 161) (w := 1) K dX3_unlike_161 rfl (Nat.le_of_ble_eq_true rfl) (by decide) ?_
                    refine v_goto (pc := 164) (tgt := 58) K dX3_unlike_164 (by decide) ?_
                    have e := lfc h hk
                    exact e
                  clear h
                  have h := h49
                  refine v_icmp_le (pc := 142) (tgt := 161) K dX3_unlike_142 (by decide) (fun c50 => ?_) (fun c50 => ?_)
                  · have h := it c50 h
                    cases h
                    exact hJ48
                  · have h := ie c50 h
                    refine v_iload8 (pc := 145) K dX3_unlike_145 ?_
                    refine v_istore5 (pc := 147) K dX3_unlike_147 rfl (Nat.le_of_ble_eq_true rfl) ?_
                    refine v_aload0 (pc := 149) K dX3_unlike_149 ?_
                    refine v_getR (pc := 150) K fl_RX3_25 dX3_unlike_150 (Nat.le_of_ble_eq_true rfl) rfl rfl ?_
                    refine v_getR (pc := 153) K fl_RX3_190 dX3_unlike_153 (Nat.le_of_ble_eq_true rfl) rfl rfl ?_
                    refine v_iload9 (pc := 156) K dX3_unlike_156 ?_
                    obtain ⟨j51, h52, h⟩ := bd h
                    refine v_laload (pc := 158) K dX3_unlike_158 (Nat.le_of_ble_eq_true rfl) rfl h52 ?_
                    refine v_lstore6 (pc := 159) K dX3_unlike_159 rfl (Nat.le_of_ble_eq_true rfl) ?_
                    cases h
                    exact hJ48
                clear h
                have h := h45
                refine v_if_eq (pc := 127) (tgt := 134) K dX3_unlike_127 (by decide) (fun c46 => ?_) (fun c46 => ?_)
                · have h := it c46 h
                  refine v_ic1 (pc := 134) K dX3_unlike_134 ?_
                  cases h
                  exact (v_fg [true, true, true, true, false, true, true, true, true, true, false] hJ44)
                · have h := ie c46 h
                  refine v_ic0 (pc := 130) K dX3_unlike_130 ?_
                  refine v_goto (pc := 131) (tgt := 135) K dX3_unlike_131 (by decide) ?_
                  cases h
                  exact (v_fg [true, true, true, true, false, true, true, true, true, true, false] hJ44)
              clear h
              have h := h41
              refine v_if_eq (pc := 110) (tgt := 120) K dX3_unlike_110 (by decide) (fun c42 => ?_) (fun c42 => ?_)
              · have h := it c42 h
                refine v_ic1 (pc := 120) K dX3_unlike_120 ?_
                cases h
                exact (v_fg [true, true, true, true, true, true, true, true, false, true, true] hJ40)
              · have h := ie c42 h
                refine v_iload8 (pc := 113) K dX3_unlike_113 ?_
                refine v_ic1 (pc := 115) K dX3_unlike_115 ?_
                refine v_iadd (pc := 116) K dX3_unlike_116 ?_
                refine v_goto (pc := 117) (tgt := 121) K dX3_unlike_117 (by decide) ?_
                cases h
                exact (v_fg [true, true, true, true, true, true, true, true, false, true, true] hJ40)
            clear h
            have h := h32
            refine v_if_le (pc := 72) (tgt := 105) K dX3_unlike_72 (by decide) (fun c33 => ?_) (fun c33 => ?_)
            · have h := it c33 h
              refine v_ic0 (pc := 105) K dX3_unlike_105 ?_
              cases h
              exact hJ31
            · have h := ie c33 h
              refine v_aload0 (pc := 75) K dX3_unlike_75 ?_
              refine v_getR (pc := 76) K fl_RX3_25 dX3_unlike_76 (Nat.le_of_ble_eq_true rfl) rfl rfl ?_
              refine v_getR (pc := 79) K fl_RX3_190 dX3_unlike_79 (Nat.le_of_ble_eq_true rfl) rfl rfl ?_
              refine v_iload9 (pc := 82) K dX3_unlike_82 ?_
              obtain ⟨j34, h35, h⟩ := bd h
              refine v_laload (pc := 84) K dX3_unlike_84 (Nat.le_of_ble_eq_true rfl) rfl h35 ?_
              refine v_aload0 (pc := 85) K dX3_unlike_85 ?_
              refine v_getR (pc := 86) K fl_RX3_25 dX3_unlike_86 (Nat.le_of_ble_eq_true rfl) rfl rfl ?_
              refine v_getR (pc := 89) K fl_RX3_190 dX3_unlike_89 (Nat.le_of_ble_eq_true rfl) rfl rfl ?_
              refine v_iload9 (pc := 92) K dX3_unlike_92 ?_
              refine v_ic1 (pc := 94) K dX3_unlike_94 ?_
              refine v_isub (pc := 95) K dX3_unlike_95 ?_
              obtain ⟨j36, h37, h⟩ := bd h
              refine v_laload (pc := 96) K dX3_unlike_96 (Nat.le_of_ble_eq_true rfl) rfl h37 ?_
              refine v_lc_ne (pc := 97) (tgt := 105) K dX3_unlike_97 dX3_unlike_98 (by decide) (fun c38 => ?_) (fun c38 => ?_)
              · have h := ie c38 h
                refine v_ic0 (pc := 105) K dX3_unlike_105 ?_
                cases h
                exact hJ31
              · have h := it c38 h
                refine v_ic1 (pc := 101) K dX3_unlike_101 ?_
                refine v_goto (pc := 102) (tgt := 106) K dX3_unlike_102 (by decide) ?_
                cases h
                exact hJ31
        · cases hF
          exact v_cS1X (pc := 23)  K ca_yX3_needArgument ml_RX3_73 (t_X3_needArgument _ K.nt K.ad s6 t9 (.error e17) _ h16) (Nat.le_of_ble_eq_true rfl) (by decide) (by decide) dX3_unlike_23 hN rfl rfl
      clear h
      have h := h11
      refine v_if_lt (pc := 10) (tgt := 22) K dX3_unlike_10 (by decide) (fun c12 => ?_) (fun c12 => ?_)
      · have h := it c12 h
        refine v_ic0 (pc := 22) K dX3_unlike_22 ?_
        cases h
        exact hJ10
      · have h := ie c12 h
        refine v_iload3 (pc := 13) K dX3_unlike_13 ?_
        refine v_ic2 (pc := 14) K dX3_unlike_14 ?_
        refine v_icmp_gt (pc := 15) (tgt := 22) K dX3_unlike_15 (by decide) (fun c13 => ?_) (fun c13 => ?_)
        · have h := it c13 h
          refine v_ic0 (pc := 22) K dX3_unlike_22 ?_
          cases h
          exact hJ10
        · have h := ie c13 h
          refine v_ic1 (pc := 18) K dX3_unlike_18 ?_
          refine v_goto (pc := 19) (tgt := 23) K dX3_unlike_19 (by decide) ?_
          cases h
          exact hJ10
    · cases hF
      exact v_cS1X (pc := 6)  K ca_yX3_needMask ml_RX3_125 (t_X3_needMask _ K.nt K.ad s2 a1 (.error e8) _ h7) (Nat.le_of_ble_eq_true rfl) (by decide) (by decide) dX3_unlike_6 hN rfl rfl
  · cases hF
    exact v_cV1X (pc := 2)  K ca_yX3_needColumn ml_RX3_66 (Nat.le_of_ble_eq_true rfl) rfl rfl (t_X3_needColumn _ K.nt K.ad σ a0 (.error e4) _ h3) (Nat.le_of_ble_eq_true rfl) (by decide) (by decide) dX3_unlike_2 hN rfl rfl
set_option maxRecDepth 100000 in
def c_X3_ones (σ : St) (a0 : Int32) (a1 : Int32) (a2 : Int32) : Option (Except String Int32 × St) :=
  (xB (c_X3_needColumn σ a0) fun _ s2 => (xB (c_X3_needBit s2 a0 a1) fun _ s6 => (xB (c_X3_needMask s6 a2) fun _ s10 => ((c_X3_gather s10 a0 a2).bind fun v13 => ((lp 5000 (fun (s15 : Int32 × Int32) => (if v13.1 19 0 ≤ s15.2 then some (.inr s15.1) else ((ix s15.2 192).bind fun j23 => ((c_X3_hasBit v13 (v13.2 21 j23) a1).bind fun v25 => ((if v25 = 0 then some (0 : Int32) else some (1 : Int32)).bind fun (t27 : Int32) => some (.inl ((s15.1 + t27), (s15.2 + 1)))))))) ((0 : Int32), (0 : Int32))).bind fun (r16 : Int32) => some (.ok r16, v13))))))
set_option maxHeartbeats 4000000 in
set_option maxRecDepth 100000 in
theorem t_X3_ones (l : Launch) (hnt : l.stackTraces = false) {E : Ev} {base : Nat} (hE : Adr YC E base) (σ : St) (a0 : Int32) (a1 : Int32) (a2 : Int32) (r : Except String Int32) (σ' : St) (h : c_X3_ones σ a0 a1 a2 = some (r, σ')) : Ctr l yX3_ones cX3_ones 6 (some .int) 7 122 YC E base [.ref (E.2.2 0), .int a0, .int a1, .int a2] σ (rI r) σ' := by
  unfold c_X3_ones at h
  refine ofV 2 (by decide +kernel) rfl hE hnt (Nat.le_of_ble_eq_true rfl) rfl (fun M hN K => ?_)
  refine v_aload0 (pc := 0) K dX3_ones_0 ?_
  refine v_iload1 (pc := 1) K dX3_ones_1 ?_
  rcases xb h with ⟨v1, s2, h3, h⟩ | ⟨e4, s2, h3, hF⟩
  · refine v_cV1U (pc := 2) K ca_yX3_needColumn ml_RX3_66 (Nat.le_of_ble_eq_true rfl) rfl rfl (t_X3_needColumn _ K.nt K.ad σ a0 (.ok v1) s2 h3) (Nat.le_of_ble_eq_true rfl) (by decide) (by decide) dX3_ones_2 ?_
    refine v_aload0 (pc := 5) K dX3_ones_5 ?_
    refine v_iload1 (pc := 6) K dX3_ones_6 ?_
    refine v_iload2 (pc := 7) K dX3_ones_7 ?_
    rcases xb h with ⟨v5, s6, h7, h⟩ | ⟨e8, s6, h7, hF⟩
    · refine v_cV2U (pc := 8) K ca_yX3_needBit ml_RX3_109 (Nat.le_of_ble_eq_true rfl) rfl rfl (t_X3_needBit _ K.nt K.ad s2 a0 a1 (.ok v5) s6 h7) (Nat.le_of_ble_eq_true rfl) (by decide) (by decide) dX3_ones_8 ?_
      refine v_iload3 (pc := 11) K dX3_ones_11 ?_
      rcases xb h with ⟨v9, s10, h11, h⟩ | ⟨e12, s10, h11, hF⟩
      · refine v_cS1U (pc := 12) K ca_yX3_needMask ml_RX3_125 (t_X3_needMask _ K.nt K.ad s6 a2 (.ok v9) s10 h11) (Nat.le_of_ble_eq_true rfl) (by decide) (by decide) dX3_ones_12 ?_
        refine v_aload0 (pc := 15) K dX3_ones_15 ?_
        refine v_iload1 (pc := 16) K dX3_ones_16 ?_
        refine v_iload3 (pc := 17) K dX3_ones_17 ?_
        obtain ⟨v13, h14, h⟩ := bd h
        refine v_cV2U (pc := 18)  K ca_yX3_gather ml_RX3_166 (Nat.le_of_ble_eq_true rfl) rfl rfl (t_X3_gather _ K.nt K.ad s10 a0 a2 v13 h14) (Nat.le_of_ble_eq_true rfl) (by decide) (by decide) dX3_ones_18 ?_
        refine v_ic0 (pc := 21) K dX3_ones_21 ?_
        refine v_istore4 (pc := 22) K dX3_ones_22 rfl (Nat.le_of_ble_eq_true rfl) ?_
        refine v_ic0 (pc := 24) K dX3_ones_24 ?_
        refine v_istore5 (pc := 25) K dX3_ones_25 rfl (Nat.le_of_ble_eq_true rfl) ?_
        obtain ⟨r16, h18, h⟩ := bd h
        have hJ17 : V (mkX M YC E base 6 (rI r) σ') v13 72 [none, none, none, none, some (.int r16), none] [] := by
          refine v_iload4 (pc := 72) K dX3_ones_72 ?_
          cases h
          exact v_iret (pc := 74) K dX3_ones_74 rfl rfl
        clear h
        refine v_fg [true, false, true, false, true, true] ?_
        have hL31 := lpv h18 (fun s15 : Int32 × Int32 => V (mkX M YC E base 6 (rI r) σ') v13 27 [some (.ref (E.2.2 0)), none, some (.int a1), none, some (.int s15.1), some (.int s15.2)] [])
        refine hL31 (fun s15 o h hk => ?_)
        refine v_iload5 (pc := 27) K dX3_ones_27 ?_
        refine v_aload0 (pc := 29) K dX3_ones_29 ?_
        refine v_getR (pc := 30) K fl_RX3_25 dX3_ones_30 (Nat.le_of_ble_eq_true rfl) rfl rfl ?_
        refine v_getI (pc := 33) K fl_RX3_173 dX3_ones_33 (Nat.le_of_ble_eq_true rfl) rfl rfl ?_
        refine v_icmp_ge (pc := 36) (tgt := 72) K dX3_ones_36 (by decide) (fun c22 => ?_) (fun c22 => ?_)
        · have h := it c22 h
          have e := lx h hk
          cases e
          exact v_fg [false, true, false, true, true, false] hJ17
        · have h := ie c22 h
          refine v_iload4 (pc := 39) K dX3_ones_39 ?_
          refine v_aload0 (pc := 41) K dX3_ones_41 ?_
          refine v_getR (pc := 42) K fl_RX3_25 dX3_ones_42 (Nat.le_of_ble_eq_true rfl) rfl rfl ?_
          refine v_getR (pc := 45) K fl_RX3_190 dX3_ones_45 (Nat.le_of_ble_eq_true rfl) rfl rfl ?_
          refine v_iload5 (pc := 48) K dX3_ones_48 ?_
          obtain ⟨j23, h24, h⟩ := bd h
          refine v_laload (pc := 50) K dX3_ones_50 (Nat.le_of_ble_eq_true rfl) rfl h24 ?_
          refine v_iload2 (pc := 51) K dX3_ones_51 ?_
          obtain ⟨v25, h26, h⟩ := bd h
          refine v_cS2I (pc := 52)  K ca_yX3_hasBit ml_RX3_118 (t_X3_hasBit _ K.nt K.ad v13 (v13.2 21 j23) a1 v25 h26) (Nat.le_of_ble_eq_true rfl) (by decide) (by decide) dX3_ones_52 ?_
          obtain ⟨t27, h29, h⟩ := bd h
          have hJ28 : V (mkX M YC E base 6 (rI r) σ') v13 63 [some (.ref (E.2.2 0)), none, some (.int a1), none, none, some (.int s15.2)] [.int t27, .int s15.1] := by
            refine v_iadd (pc := 63) K dX3_ones_63 ?_
            refine v_istore4 (pc := 64) K dX3_ones_64 rfl (Nat.le_of_ble_eq_true rfl) ?_
            refine v_iinc5 (pc := 66) (w := 1) K dX3_ones_66 rfl (Nat.le_of_ble_eq_true rfl) (by decide) ?_
            refine v_goto (pc := 69) (tgt := 27) K dX3_ones_69 (by decide) ?_
            have e := lfc h hk
            exact e
          clear h
          have h := h29
          refine v_if_eq (pc := 55) (tgt := 62) K dX3_ones_55 (by decide) (fun c30 => ?_) (fun c30 => ?_)
          · have h := it c30 h
            refine v_ic0 (pc := 62) K dX3_ones_62 ?_
            cases h
            exact (v_fg [true, true, true, true, false, true] hJ28)
          · have h := ie c30 h
            refine v_ic1 (pc := 58) K dX3_ones_58 ?_
            refine v_goto (pc := 59) (tgt := 63) K dX3_ones_59 (by decide) ?_
            cases h
            exact (v_fg [true, true, true, true, false, true] hJ28)
      · cases hF
        exact v_cS1X (pc := 12)  K ca_yX3_needMask ml_RX3_125 (t_X3_needMask _ K.nt K.ad s6 a2 (.error e12) _ h11) (Nat.le_of_ble_eq_true rfl) (by decide) (by decide) dX3_ones_12 hN rfl rfl
    · cases hF
      exact v_cV2X (pc := 8)  K ca_yX3_needBit ml_RX3_109 (Nat.le_of_ble_eq_true rfl) rfl rfl (t_X3_needBit _ K.nt K.ad s2 a0 a1 (.error e8) _ h7) (Nat.le_of_ble_eq_true rfl) (by decide) (by decide) dX3_ones_8 hN rfl rfl
  · cases hF
    exact v_cV1X (pc := 2)  K ca_yX3_needColumn ml_RX3_66 (Nat.le_of_ble_eq_true rfl) rfl rfl (t_X3_needColumn _ K.nt K.ad σ a0 (.error e4) _ h3) (Nat.le_of_ble_eq_true rfl) (by decide) (by decide) dX3_ones_2 hN rfl rfl
set_option maxRecDepth 100000 in
def c_X3_where (σ : St) (a0 : Int32) (a1 : Int32) (a2 : Int64) : Option (Except String Int32 × St) :=
  (xB (c_X3_needColumn σ a0) fun _ s2 => (xB (c_X3_needMask s2 a1) fun _ s6 => (eB (lp 5000 (fun (s9 : Int32) => (if s6.1 1 0 ≤ s9 then some (.inr (.inl ())) else ((c_X1_isNumbered s6 a0 s9 a1).bind fun v17 => (if v17 = 0 then some (.inl (s9 + 1)) else ((ix a0 6).bind fun j20 => ((ix s9 192).bind fun j22 => (if s6.2 (4 + j20) j22 = a2 then some (.inr (.inr (.ok s9, s6))) else some (.inl (s9 + 1))))))))) (0 : Int32)) fun (r10 : Unit) => some (.ok ((-1) : Int32), s6))))
set_option maxHeartbeats 4000000 in
set_option maxRecDepth 100000 in
theorem t_X3_where (l : Launch) (hnt : l.stackTraces = false) {E : Ev} {base : Nat} (hE : Adr YC E base) (σ : St) (a0 : Int32) (a1 : Int32) (a2 : Int64) (r : Except String Int32) (σ' : St) (h : c_X3_where σ a0 a1 a2 = some (r, σ')) : Ctr l yX3_where cX3_where 6 (some .int) 7 121 YC E base [.ref (E.2.2 0), .int a0, .int a1, .long a2] σ (rI r) σ' := by
  unfold c_X3_where at h
  refine ofV 1 (by decide +kernel) rfl hE hnt (Nat.le_of_ble_eq_true rfl) rfl (fun M hN K => ?_)
  refine v_aload0 (pc := 0) K dX3_where_0 ?_
  refine v_iload1 (pc := 1) K dX3_where_1 ?_
  rcases xb h with ⟨v1, s2, h3, h⟩ | ⟨e4, s2, h3, hF⟩
  · refine v_cV1U (pc := 2) K ca_yX3_needColumn ml_RX3_66 (Nat.le_of_ble_eq_true rfl) rfl rfl (t_X3_needColumn _ K.nt K.ad σ a0 (.ok v1) s2 h3) (Nat.le_of_ble_eq_true rfl) (by decide) (by decide) dX3_where_2 ?_
    refine v_iload2 (pc := 5) K dX3_where_5 ?_
    rcases xb h with ⟨v5, s6, h7, h⟩ | ⟨e8, s6, h7, hF⟩
    · refine v_cS1U (pc := 6) K ca_yX3_needMask ml_RX3_125 (t_X3_needMask _ K.nt K.ad s2 a1 (.ok v5) s6 h7) (Nat.le_of_ble_eq_true rfl) (by decide) (by decide) dX3_where_6 ?_
      refine v_ic0 (pc := 9) K dX3_where_9 ?_
      refine v_istore5 (pc := 10) K dX3_where_10 rfl (Nat.le_of_ble_eq_true rfl) ?_
      obtain ⟨w15, h12, hi13, hq14⟩ := eb h
      have hJ11 : ∀ r10 : Unit, w15 = .inl r10 → V (mkX M YC E base 6 (rI r) σ') s6 64 [none, none, none, none, none, none] [] := by
        intro r10 ha
        have h := hi13 _ ha
        refine v_icm1 (pc := 64) K dX3_where_64 ?_
        cases h
        exact v_iret (pc := 65) K dX3_where_65 rfl rfl
      clear h
      have hL25 := lpv h12 (fun s9 : Int32 => V (mkX M YC E base 6 (rI r) σ') s6 12 [some (.ref (E.2.2 0)), some (.int a0), some (.int a1), some (.long a2), none, some (.int s9)] [])
      refine hL25 (fun s9 o h hk => ?_)
      refine v_iload5 (pc := 12) K dX3_where_12 ?_
      refine v_aload0 (pc := 14) K dX3_where_14 ?_
      refine v_getR (pc := 15) K fl_RX3_14 dX3_where_15 (Nat.le_of_ble_eq_true rfl) rfl rfl ?_
      refine v_getI (pc := 18) K fl_RX3_76 dX3_where_18 (Nat.le_of_ble_eq_true rfl) rfl rfl ?_
      refine v_icmp_ge (pc := 21) (tgt := 64) K dX3_where_21 (by decide) (fun c16 => ?_) (fun c16 => ?_)
      · have h := it c16 h
        have e := lx h hk
        exact v_fg [false, false, false, false, true, false] (hJ11 _ e.symm)
      · have h := ie c16 h
        refine v_aload0 (pc := 24) K dX3_where_24 ?_
        refine v_getR (pc := 25) K fl_RX3_14 dX3_where_25 (Nat.le_of_ble_eq_true rfl) rfl rfl ?_
        refine v_iload1 (pc := 28) K dX3_where_28 ?_
        refine v_iload5 (pc := 29) K dX3_where_29 ?_
        refine v_iload2 (pc := 31) K dX3_where_31 ?_
        obtain ⟨v17, h18, h⟩ := bd h
        refine v_cV3I (pc := 32)  K ca_yX1_isNumbered ml_RX3_150 (Nat.le_of_ble_eq_true rfl) rfl rfl (t_X1_isNumbered _ K.nt K.ad s6 a0 s9 a1 v17 h18) (Nat.le_of_ble_eq_true rfl) (by decide) (by decide) dX3_where_32 ?_
        refine v_if_eq (pc := 35) (tgt := 58) K dX3_where_35 (by decide) (fun c19 => ?_) (fun c19 => ?_)
        · have h := it c19 h
          refine v_iinc5 (pc := 58) (w := 1) K dX3_where_58 rfl (Nat.le_of_ble_eq_true rfl) (by decide) ?_
          refine v_goto (pc := 61) (tgt := 12) K dX3_where_61 (by decide) ?_
          have e := lfc h hk
          exact e
        · have h := ie c19 h
          refine v_aload0 (pc := 38) K dX3_where_38 ?_
          refine v_getR (pc := 39) K fl_RX3_14 dX3_where_39 (Nat.le_of_ble_eq_true rfl) rfl rfl ?_
          refine v_getR (pc := 42) K fl_RX3_86 dX3_where_42 (Nat.le_of_ble_eq_true rfl) rfl rfl ?_
          refine v_iload1 (pc := 45) K dX3_where_45 ?_
          obtain ⟨j20, h21, h⟩ := bd h
          refine v_aal (pc := 46) (b := 4) K dX3_where_46 (Nat.le_of_ble_eq_true rfl) rfl rfl h21 ?_
          refine v_iload5 (pc := 47) K dX3_where_47 ?_
          obtain ⟨j22, h23, h⟩ := bd h
          refine v_laload (pc := 49) K dX3_where_49 (rowC' (ix_lt h21)) (rowC (ix_lt h21)) h23 ?_
          refine v_lload3 (pc := 50) K dX3_where_50 ?_
          refine v_lc_ne (pc := 51) (tgt := 58) K dX3_where_51 dX3_where_52 (by decide) (fun c24 => ?_) (fun c24 => ?_)
          · have h := ie c24 h
            refine v_iinc5 (pc := 58) (w := 1) K dX3_where_58 rfl (Nat.le_of_ble_eq_true rfl) (by decide) ?_
            refine v_goto (pc := 61) (tgt := 12) K dX3_where_61 (by decide) ?_
            have e := lfc h hk
            exact e
          · have h := it c24 h
            refine v_iload5 (pc := 55) K dX3_where_55 ?_
            have h := congrArg some (hq14 _ (lx h hk).symm)
            cases h
            exact v_iret (pc := 57) K dX3_where_57 rfl rfl
    · cases hF
      exact v_cS1X (pc := 6)  K ca_yX3_needMask ml_RX3_125 (t_X3_needMask _ K.nt K.ad s2 a1 (.error e8) _ h7) (Nat.le_of_ble_eq_true rfl) (by decide) (by decide) dX3_where_6 hN rfl rfl
  · cases hF
    exact v_cV1X (pc := 2)  K ca_yX3_needColumn ml_RX3_66 (Nat.le_of_ble_eq_true rfl) rfl rfl (t_X3_needColumn _ K.nt K.ad σ a0 (.error e4) _ h3) (Nat.le_of_ble_eq_true rfl) (by decide) (by decide) dX3_where_2 hN rfl rfl
set_option maxRecDepth 100000 in
def c_X2_includeProduct (σ : St) (a0 : Int64) (a1 : Int64) : Option (St) :=
  ((c_X2_includeAt σ (0 : Int32) ((a0 &&& (2147483647 : Int64)) * (a1 &&& (2147483647 : Int64)))).bind fun v1 => ((c_X2_includeAt v1 (1 : Int32) ((a0 >>> (((31 : Int32)).toInt64 &&& 63)) * (a1 &&& (2147483647 : Int64)))).bind fun v3 => ((c_X2_includeAt v3 (1 : Int32) ((a0 &&& (2147483647 : Int64)) * (a1 >>> (((31 : Int32)).toInt64 &&& 63)))).bind fun v5 => ((c_X2_includeAt v5 (2 : Int32) ((a0 >>> (((31 : Int32)).toInt64 &&& 63)) * (a1 >>> (((31 : Int32)).toInt64 &&& 63)))).bind fun v7 => some v7))))
set_option maxHeartbeats 4000000 in
set_option maxRecDepth 100000 in
theorem t_X2_includeProduct (l : Launch) (hnt : l.stackTraces = false) {E : Ev} {base : Nat} (hE : Adr YC E base) (σ : St) (a0 : Int64) (a1 : Int64) (r : St) (h : c_X2_includeProduct σ a0 a1 = some r) : Ctr l yX2_includeProduct cX2_includeProduct 13 none 1 28 YC E base [.ref (E.2.2 24), .long a0, .long a1] σ (.ok none) r := by
  unfold c_X2_includeProduct at h
  refine ofV 8 (by decide +kernel) rfl hE hnt (Nat.le_of_ble_eq_true rfl) rfl (fun M hN K => ?_)
  refine v_lload1 (pc := 0) K dX2_includeProduct_0 ?_
  refine v_ldc2 (pc := 1) K dX2_includeProduct_1 cl_RX2_13 ?_
  refine v_land (pc := 4) K dX2_includeProduct_4 ?_
  refine v_lstore5 (pc := 5) K dX2_includeProduct_5 rfl (Nat.le_of_ble_eq_true rfl) ?_
  refine v_lload1 (pc := 7) K dX2_includeProduct_7 ?_
  refine v_bipush (pc := 8) (v := 31) K dX2_includeProduct_8 (by decide) ?_
  refine v_lshr (pc := 10) K dX2_includeProduct_10 ?_
  refine v_lstore7 (pc := 11) K dX2_includeProduct_11 rfl (Nat.le_of_ble_eq_true rfl) ?_
  refine v_lload3 (pc := 13) K dX2_includeProduct_13 ?_
  refine v_ldc2 (pc := 14) K dX2_includeProduct_14 cl_RX2_13 ?_
  refine v_land (pc := 17) K dX2_includeProduct_17 ?_
  refine v_lstore9 (pc := 18) K dX2_includeProduct_18 rfl (Nat.le_of_ble_eq_true rfl) ?_
  refine v_lload3 (pc := 20) K dX2_includeProduct_20 ?_
  refine v_bipush (pc := 21) (v := 31) K dX2_includeProduct_21 (by decide) ?_
  refine v_lshr (pc := 23) K dX2_includeProduct_23 ?_
  refine v_lstore11 (pc := 24) K dX2_includeProduct_24 rfl (Nat.le_of_ble_eq_true rfl) ?_
  refine v_aload0 (pc := 26) K dX2_includeProduct_26 ?_
  refine v_ic0 (pc := 27) K dX2_includeProduct_27 ?_
  refine v_lload5 (pc := 28) K dX2_includeProduct_28 ?_
  refine v_lload9 (pc := 30) K dX2_includeProduct_30 ?_
  refine v_lmul (pc := 32) K dX2_includeProduct_32 ?_
  obtain ⟨v1, h2, h⟩ := bd h
  refine v_cV2U (pc := 33)  K ca_yX2_includeAt ml_RX2_15 (Nat.le_of_ble_eq_true rfl) rfl rfl (t_X2_includeAt _ K.nt K.ad σ (0 : Int32) ((a0 &&& (2147483647 : Int64)) * (a1 &&& (2147483647 : Int64))) v1 h2) (Nat.le_of_ble_eq_true rfl) (by decide) (by decide) dX2_includeProduct_33 ?_
  refine v_aload0 (pc := 36) K dX2_includeProduct_36 ?_
  refine v_ic1 (pc := 37) K dX2_includeProduct_37 ?_
  refine v_lload7 (pc := 38) K dX2_includeProduct_38 ?_
  refine v_lload9 (pc := 40) K dX2_includeProduct_40 ?_
  refine v_lmul (pc := 42) K dX2_includeProduct_42 ?_
  obtain ⟨v3, h4, h⟩ := bd h
  refine v_cV2U (pc := 43)  K ca_yX2_includeAt ml_RX2_15 (Nat.le_of_ble_eq_true rfl) rfl rfl (t_X2_includeAt _ K.nt K.ad v1 (1 : Int32) ((a0 >>> (((31 : Int32)).toInt64 &&& 63)) * (a1 &&& (2147483647 : Int64))) v3 h4) (Nat.le_of_ble_eq_true rfl) (by decide) (by decide) dX2_includeProduct_43 ?_
  refine v_aload0 (pc := 46) K dX2_includeProduct_46 ?_
  refine v_ic1 (pc := 47) K dX2_includeProduct_47 ?_
  refine v_lload5 (pc := 48) K dX2_includeProduct_48 ?_
  refine v_lload11 (pc := 50) K dX2_includeProduct_50 ?_
  refine v_lmul (pc := 52) K dX2_includeProduct_52 ?_
  obtain ⟨v5, h6, h⟩ := bd h
  refine v_cV2U (pc := 53)  K ca_yX2_includeAt ml_RX2_15 (Nat.le_of_ble_eq_true rfl) rfl rfl (t_X2_includeAt _ K.nt K.ad v3 (1 : Int32) ((a0 &&& (2147483647 : Int64)) * (a1 >>> (((31 : Int32)).toInt64 &&& 63))) v5 h6) (Nat.le_of_ble_eq_true rfl) (by decide) (by decide) dX2_includeProduct_53 ?_
  refine v_aload0 (pc := 56) K dX2_includeProduct_56 ?_
  refine v_ic2 (pc := 57) K dX2_includeProduct_57 ?_
  refine v_lload7 (pc := 58) K dX2_includeProduct_58 ?_
  refine v_lload11 (pc := 60) K dX2_includeProduct_60 ?_
  refine v_lmul (pc := 62) K dX2_includeProduct_62 ?_
  obtain ⟨v7, h8, h⟩ := bd h
  refine v_cV2U (pc := 63)  K ca_yX2_includeAt ml_RX2_15 (Nat.le_of_ble_eq_true rfl) rfl rfl (t_X2_includeAt _ K.nt K.ad v5 (2 : Int32) ((a0 >>> (((31 : Int32)).toInt64 &&& 63)) * (a1 >>> (((31 : Int32)).toInt64 &&& 63))) v7 h8) (Nat.le_of_ble_eq_true rfl) (by decide) (by decide) dX2_includeProduct_63 ?_
  cases h
  exact v_vret (pc := 66) K dX2_includeProduct_66 rfl rfl
set_option maxRecDepth 100000 in
def c_X3_dot (σ : St) (a0 : Int32) (a1 : Int32) (a2 : Int32) : Option (Except String Int64 × St) :=
  (xB (c_X3_needColumn σ a0) fun _ s2 => (xB (c_X3_needColumn s2 a1) fun _ s6 => (xB (c_X3_needMask s6 a2) fun _ s10 => ((c_X2_restart s10).bind fun v13 => ((lp 5000 (fun (s15 : Int32 × St) => (if s15.2.1 1 0 ≤ s15.1 then some (.inr s15.2) else ((c_X1_areBothNumbered s15.2 a0 a1 s15.1 a2).bind fun v23 => ((if v23 = 0 then some s15.2 else ((ix a0 6).bind fun j29 => ((ix s15.1 192).bind fun j31 => ((ix a1 6).bind fun j33 => ((ix s15.1 192).bind fun j35 => ((c_X2_includeProduct s15.2 (s15.2.2 (4 + j29) j31) (s15.2.2 (4 + j33) j35)).bind fun v37 => some v37)))))).bind fun (t25 : St) => some (.inl ((s15.1 + 1), t25)))))) ((0 : Int32), v13)).bind fun (r16 : St) => (xB (c_X2_exactLong r16) fun v39 s40 => some (.ok v39, s40)))))))
set_option maxHeartbeats 4000000 in
set_option maxRecDepth 100000 in
theorem t_X3_dot (l : Launch) (hnt : l.stackTraces = false) {E : Ev} {base : Nat} (hE : Adr YC E base) (σ : St) (a0 : Int32) (a1 : Int32) (a2 : Int32) (r : Except String Int64) (σ' : St) (h : c_X3_dot σ a0 a1 a2 = some (r, σ')) : Ctr l yX3_dot cX3_dot 5 (some .long) 8 140 YC E base [.ref (E.2.2 0), .int a0, .int a1, .int a2] σ (rL r) σ' := by
  unfold c_X3_dot at h
  refine ofV 1 (by decide +kernel) rfl hE hnt (Nat.le_of_ble_eq_true rfl) rfl (fun M hN K => ?_)
  refine v_aload0 (pc := 0) K dX3_dot_0 ?_
  refine v_iload1 (pc := 1) K dX3_dot_1 ?_
  rcases xb h with ⟨v1, s2, h3, h⟩ | ⟨e4, s2, h3, hF⟩
  · refine v_cV1U (pc := 2) K ca_yX3_needColumn ml_RX3_66 (Nat.le_of_ble_eq_true rfl) rfl rfl (t_X3_needColumn _ K.nt K.ad σ a0 (.ok v1) s2 h3) (Nat.le_of_ble_eq_true rfl) (by decide) (by decide) dX3_dot_2 ?_
    refine v_aload0 (pc := 5) K dX3_dot_5 ?_
    refine v_iload2 (pc := 6) K dX3_dot_6 ?_
    rcases xb h with ⟨v5, s6, h7, h⟩ | ⟨e8, s6, h7, hF⟩
    · refine v_cV1U (pc := 7) K ca_yX3_needColumn ml_RX3_66 (Nat.le_of_ble_eq_true rfl) rfl rfl (t_X3_needColumn _ K.nt K.ad s2 a1 (.ok v5) s6 h7) (Nat.le_of_ble_eq_true rfl) (by decide) (by decide) dX3_dot_7 ?_
      refine v_iload3 (pc := 10) K dX3_dot_10 ?_
      rcases xb h with ⟨v9, s10, h11, h⟩ | ⟨e12, s10, h11, hF⟩
      · refine v_cS1U (pc := 11) K ca_yX3_needMask ml_RX3_125 (t_X3_needMask _ K.nt K.ad s6 a2 (.ok v9) s10 h11) (Nat.le_of_ble_eq_true rfl) (by decide) (by decide) dX3_dot_11 ?_
        refine v_aload0 (pc := 14) K dX3_dot_14 ?_
        refine v_getR (pc := 15) K fl_RX3_32 dX3_dot_15 (Nat.le_of_ble_eq_true rfl) rfl rfl ?_
        obtain ⟨v13, h14, h⟩ := bd h
        refine v_cV0U (pc := 18)  K ca_yX2_restart ml_RX3_213 (Nat.le_of_ble_eq_true rfl) rfl rfl (t_X2_restart _ K.nt K.ad s10 v13 h14) (Nat.le_of_ble_eq_true rfl) (by decide) (by decide) dX3_dot_18 ?_
        refine v_ic0 (pc := 21) K dX3_dot_21 ?_
        refine v_istore4 (pc := 22) K dX3_dot_22 rfl (Nat.le_of_ble_eq_true rfl) ?_
        obtain ⟨r16, h18, h⟩ := bd h
        have hJ17 : V (mkX M YC E base 5 (rL r) σ') r16 88 [some (.ref (E.2.2 0)), none, none, none, none] [] := by
          refine v_aload0 (pc := 88) K dX3_dot_88 ?_
          refine v_getR (pc := 89) K fl_RX3_32 dX3_dot_89 (Nat.le_of_ble_eq_true rfl) rfl rfl ?_
          rcases xb h with ⟨v39, s40, h41, h⟩ | ⟨e42, s40, h41, hF⟩
          · refine v_cV0L (pc := 92) K ca_yX2_exactLong ml_RX3_220 (Nat.le_of_ble_eq_true rfl) rfl rfl (t_X2_exactLong _ K.nt K.ad r16 (.ok v39) s40 h41) (Nat.le_of_ble_eq_true rfl) (by decide) (by decide) dX3_dot_92 ?_
            cases h
            exact v_lret (pc := 95) K dX3_dot_95 rfl rfl
          · cases hF
            exact v_cV0X (pc := 92)  K ca_yX2_exactLong ml_RX3_220 (Nat.le_of_ble_eq_true rfl) rfl rfl (t_X2_exactLong _ K.nt K.ad r16 (.error e42) _ h41) (Nat.le_of_ble_eq_true rfl) (by decide) (by decide) dX3_dot_92 hN rfl rfl
        clear h
        have hL43 := lpv h18 (fun s15 : Int32 × St => V (mkX M YC E base 5 (rL r) σ') s15.2 24 [some (.ref (E.2.2 0)), some (.int a0), some (.int a1), some (.int a2), some (.int s15.1)] [])
        refine hL43 (fun s15 o h hk => ?_)
        refine v_iload4 (pc := 24) K dX3_dot_24 ?_
        refine v_aload0 (pc := 26) K dX3_dot_26 ?_
        refine v_getR (pc := 27) K fl_RX3_14 dX3_dot_27 (Nat.le_of_ble_eq_true rfl) rfl rfl ?_
        refine v_getI (pc := 30) K fl_RX3_76 dX3_dot_30 (Nat.le_of_ble_eq_true rfl) rfl rfl ?_
        refine v_icmp_ge (pc := 33) (tgt := 88) K dX3_dot_33 (by decide) (fun c22 => ?_) (fun c22 => ?_)
        · have h := it c22 h
          have e := lx h hk
          cases e
          exact v_fg [true, false, false, false, false] hJ17
        · have h := ie c22 h
          refine v_aload0 (pc := 36) K dX3_dot_36 ?_
          refine v_getR (pc := 37) K fl_RX3_14 dX3_dot_37 (Nat.le_of_ble_eq_true rfl) rfl rfl ?_
          refine v_iload1 (pc := 40) K dX3_dot_40 ?_
          refine v_iload2 (pc := 41) K dX3_dot_41 ?_
          refine v_iload4 (pc := 42) K dX3_dot_42 ?_
          refine v_iload3 (pc := 44) K dX3_dot_44 ?_
          obtain ⟨v23, h24, h⟩ := bd h
          refine v_cV4I (pc := 45)  K ca_yX1_areBothNumbered ml_RX3_158 (Nat.le_of_ble_eq_true rfl) rfl rfl (t_X1_areBothNumbered _ K.nt K.ad s15.2 a0 a1 s15.1 a2 v23 h24) (Nat.le_of_ble_eq_true rfl) (by decide) (by decide) dX3_dot_45 ?_
          obtain ⟨t25, h27, h⟩ := bd h
          have hJ26 : V (mkX M YC E base 5 (rL r) σ') t25 82 [some (.ref (E.2.2 0)), some (.int a0), some (.int a1), some (.int a2), some (.int s15.1)] [] := by
            refine v_iinc4 (pc := 82) (w := 1) K dX3_dot_82 rfl (Nat.le_of_ble_eq_true rfl) (by decide) ?_
            refine v_goto (pc := 85) (tgt := 24) K dX3_dot_85 (by decide) ?_
            have e := lfc h hk
            exact e
          clear h
          have h := h27
          refine v_if_eq (pc := 48) (tgt := 82) K dX3_dot_48 (by decide) (fun c28 => ?_) (fun c28 => ?_)
          · have h := it c28 h
            cases h
            exact hJ26
          · have h := ie c28 h
            refine v_aload0 (pc := 51) K dX3_dot_51 ?_
            refine v_getR (pc := 52) K fl_RX3_32 dX3_dot_52 (Nat.le_of_ble_eq_true rfl) rfl rfl ?_
            refine v_aload0 (pc := 55) K dX3_dot_55 ?_
            refine v_getR (pc := 56) K fl_RX3_14 dX3_dot_56 (Nat.le_of_ble_eq_true rfl) rfl rfl ?_
            refine v_getR (pc := 59) K fl_RX3_86 dX3_dot_59 (Nat.le_of_ble_eq_true rfl) rfl rfl ?_
            refine v_iload1 (pc := 62) K dX3_dot_62 ?_
            obtain ⟨j29, h30, h⟩ := bd h
            refine v_aal (pc := 63) (b := 4) K dX3_dot_63 (Nat.le_of_ble_eq_true rfl) rfl rfl h30 ?_
            refine v_iload4 (pc := 64) K dX3_dot_64 ?_
            obtain ⟨j31, h32, h⟩ := bd h
            refine v_laload (pc := 66) K dX3_dot_66 (rowC' (ix_lt h30)) (rowC (ix_lt h30)) h32 ?_
            refine v_aload0 (pc := 67) K dX3_dot_67 ?_
            refine v_getR (pc := 68) K fl_RX3_14 dX3_dot_68 (Nat.le_of_ble_eq_true rfl) rfl rfl ?_
            refine v_getR (pc := 71) K fl_RX3_86 dX3_dot_71 (Nat.le_of_ble_eq_true rfl) rfl rfl ?_
            refine v_iload2 (pc := 74) K dX3_dot_74 ?_
            obtain ⟨j33, h34, h⟩ := bd h
            refine v_aal (pc := 75) (b := 4) K dX3_dot_75 (Nat.le_of_ble_eq_true rfl) rfl rfl h34 ?_
            refine v_iload4 (pc := 76) K dX3_dot_76 ?_
            obtain ⟨j35, h36, h⟩ := bd h
            refine v_laload (pc := 78) K dX3_dot_78 (rowC' (ix_lt h34)) (rowC (ix_lt h34)) h36 ?_
            obtain ⟨v37, h38, h⟩ := bd h
            refine v_cV2U (pc := 79)  K ca_yX2_includeProduct ml_RX3_216 (Nat.le_of_ble_eq_true rfl) rfl rfl (t_X2_includeProduct _ K.nt K.ad s15.2 (s15.2.2 (4 + j29) j31) (s15.2.2 (4 + j33) j35) v37 h38) (Nat.le_of_ble_eq_true rfl) (by decide) (by decide) dX3_dot_79 ?_
            cases h
            exact hJ26
      · cases hF
        exact v_cS1X (pc := 11)  K ca_yX3_needMask ml_RX3_125 (t_X3_needMask _ K.nt K.ad s6 a2 (.error e12) _ h11) (Nat.le_of_ble_eq_true rfl) (by decide) (by decide) dX3_dot_11 hN rfl rfl
    · cases hF
      exact v_cV1X (pc := 7)  K ca_yX3_needColumn ml_RX3_66 (Nat.le_of_ble_eq_true rfl) rfl rfl (t_X3_needColumn _ K.nt K.ad s2 a1 (.error e8) _ h7) (Nat.le_of_ble_eq_true rfl) (by decide) (by decide) dX3_dot_7 hN rfl rfl
  · cases hF
    exact v_cV1X (pc := 2)  K ca_yX3_needColumn ml_RX3_66 (Nat.le_of_ble_eq_true rfl) rfl rfl (t_X3_needColumn _ K.nt K.ad σ a0 (.error e4) _ h3) (Nat.le_of_ble_eq_true rfl) (by decide) (by decide) dX3_dot_2 hN rfl rfl
set_option maxRecDepth 100000 in
def c_X3_steps (σ : St) (a0 : Int32) (a1 : Int32) : Option (Except String Int64 × St) :=
  (xB (c_X3_needColumn σ a0) fun _ s2 => (xB (c_X3_needMask s2 a1) fun _ s6 => ((c_X3_gather s6 a0 a1).bind fun v9 => ((c_X2_restart v9).bind fun v11 => ((lp 5000 (fun (s13 : Int32 × St) => (if s13.2.1 19 0 ≤ s13.1 then some (.inr s13.2) else ((ix s13.1 192).bind fun j21 => ((ix (s13.1 - (1 : Int32)) 192).bind fun j23 => ((c_J9_abs_067f4 s13.2 (s13.2.2 21 j21 - s13.2.2 21 j23)).bind fun v25 => ((c_X2_include s13.2 v25).bind fun v27 => some (.inl ((s13.1 + 1), v27)))))))) ((1 : Int32), v11)).bind fun (r14 : St) => (xB (c_X2_exactLong r14) fun v29 s30 => some (.ok v29, s30)))))))
set_option maxHeartbeats 4000000 in
set_option maxRecDepth 100000 in
theorem t_X3_steps (l : Launch) (hnt : l.stackTraces = false) {E : Ev} {base : Nat} (hE : Adr YC E base) (σ : St) (a0 : Int32) (a1 : Int32) (r : Except String Int64) (σ' : St) (h : c_X3_steps σ a0 a1 = some (r, σ')) : Ctr l yX3_steps cX3_steps 4 (some .long) 8 140 YC E base [.ref (E.2.2 0), .int a0, .int a1] σ (rL r) σ' := by
  unfold c_X3_steps at h
  refine ofV 1 (by decide +kernel) rfl hE hnt (Nat.le_of_ble_eq_true rfl) rfl (fun M hN K => ?_)
  refine v_aload0 (pc := 0) K dX3_steps_0 ?_
  refine v_iload1 (pc := 1) K dX3_steps_1 ?_
  rcases xb h with ⟨v1, s2, h3, h⟩ | ⟨e4, s2, h3, hF⟩
  · refine v_cV1U (pc := 2) K ca_yX3_needColumn ml_RX3_66 (Nat.le_of_ble_eq_true rfl) rfl rfl (t_X3_needColumn _ K.nt K.ad σ a0 (.ok v1) s2 h3) (Nat.le_of_ble_eq_true rfl) (by decide) (by decide) dX3_steps_2 ?_
    refine v_iload2 (pc := 5) K dX3_steps_5 ?_
    rcases xb h with ⟨v5, s6, h7, h⟩ | ⟨e8, s6, h7, hF⟩
    · refine v_cS1U (pc := 6) K ca_yX3_needMask ml_RX3_125 (t_X3_needMask _ K.nt K.ad s2 a1 (.ok v5) s6 h7) (Nat.le_of_ble_eq_true rfl) (by decide) (by decide) dX3_steps_6 ?_
      refine v_aload0 (pc := 9) K dX3_steps_9 ?_
      refine v_iload1 (pc := 10) K dX3_steps_10 ?_
      refine v_iload2 (pc := 11) K dX3_steps_11 ?_
      obtain ⟨v9, h10, h⟩ := bd h
      refine v_cV2U (pc := 12)  K ca_yX3_gather ml_RX3_166 (Nat.le_of_ble_eq_true rfl) rfl rfl (t_X3_gather _ K.nt K.ad s6 a0 a1 v9 h10) (Nat.le_of_ble_eq_true rfl) (by decide) (by decide) dX3_steps_12 ?_
      refine v_aload0 (pc := 15) K dX3_steps_15 ?_
      refine v_getR (pc := 16) K fl_RX3_32 dX3_steps_16 (Nat.le_of_ble_eq_true rfl) rfl rfl ?_
      obtain ⟨v11, h12, h⟩ := bd h
      refine v_cV0U (pc := 19)  K ca_yX2_restart ml_RX3_213 (Nat.le_of_ble_eq_true rfl) rfl rfl (t_X2_restart _ K.nt K.ad v9 v11 h12) (Nat.le_of_ble_eq_true rfl) (by decide) (by decide) dX3_steps_19 ?_
      refine v_ic1 (pc := 22) K dX3_steps_22 ?_
      refine v_istore3 (pc := 23) K dX3_steps_23 rfl (Nat.le_of_ble_eq_true rfl) ?_
      obtain ⟨r14, h16, h⟩ := bd h
      have hJ15 : V (mkX M YC E base 4 (rL r) σ') r14 72 [some (.ref (E.2.2 0)), none, none, none] [] := by
        refine v_aload0 (pc := 72) K dX3_steps_72 ?_
        refine v_getR (pc := 73) K fl_RX3_32 dX3_steps_73 (Nat.le_of_ble_eq_true rfl) rfl rfl ?_
        rcases xb h with ⟨v29, s30, h31, h⟩ | ⟨e32, s30, h31, hF⟩
        · refine v_cV0L (pc := 76) K ca_yX2_exactLong ml_RX3_220 (Nat.le_of_ble_eq_true rfl) rfl rfl (t_X2_exactLong _ K.nt K.ad r14 (.ok v29) s30 h31) (Nat.le_of_ble_eq_true rfl) (by decide) (by decide) dX3_steps_76 ?_
          cases h
          exact v_lret (pc := 79) K dX3_steps_79 rfl rfl
        · cases hF
          exact v_cV0X (pc := 76)  K ca_yX2_exactLong ml_RX3_220 (Nat.le_of_ble_eq_true rfl) rfl rfl (t_X2_exactLong _ K.nt K.ad r14 (.error e32) _ h31) (Nat.le_of_ble_eq_true rfl) (by decide) (by decide) dX3_steps_76 hN rfl rfl
      clear h
      refine v_fg [true, false, false, true] ?_
      have hL33 := lpv h16 (fun s13 : Int32 × St => V (mkX M YC E base 4 (rL r) σ') s13.2 24 [some (.ref (E.2.2 0)), none, none, some (.int s13.1)] [])
      refine hL33 (fun s13 o h hk => ?_)
      refine v_iload3 (pc := 24) K dX3_steps_24 ?_
      refine v_aload0 (pc := 25) K dX3_steps_25 ?_
      refine v_getR (pc := 26) K fl_RX3_25 dX3_steps_26 (Nat.le_of_ble_eq_true rfl) rfl rfl ?_
      refine v_getI (pc := 29) K fl_RX3_173 dX3_steps_29 (Nat.le_of_ble_eq_true rfl) rfl rfl ?_
      refine v_icmp_ge (pc := 32) (tgt := 72) K dX3_steps_32 (by decide) (fun c20 => ?_) (fun c20 => ?_)
      · have h := it c20 h
        have e := lx h hk
        cases e
        exact v_fg [true, true, true, false] hJ15
      · have h := ie c20 h
        refine v_aload0 (pc := 35) K dX3_steps_35 ?_
        refine v_getR (pc := 36) K fl_RX3_32 dX3_steps_36 (Nat.le_of_ble_eq_true rfl) rfl rfl ?_
        refine v_aload0 (pc := 39) K dX3_steps_39 ?_
        refine v_getR (pc := 40) K fl_RX3_25 dX3_steps_40 (Nat.le_of_ble_eq_true rfl) rfl rfl ?_
        refine v_getR (pc := 43) K fl_RX3_190 dX3_steps_43 (Nat.le_of_ble_eq_true rfl) rfl rfl ?_
        refine v_iload3 (pc := 46) K dX3_steps_46 ?_
        obtain ⟨j21, h22, h⟩ := bd h
        refine v_laload (pc := 47) K dX3_steps_47 (Nat.le_of_ble_eq_true rfl) rfl h22 ?_
        refine v_aload0 (pc := 48) K dX3_steps_48 ?_
        refine v_getR (pc := 49) K fl_RX3_25 dX3_steps_49 (Nat.le_of_ble_eq_true rfl) rfl rfl ?_
        refine v_getR (pc := 52) K fl_RX3_190 dX3_steps_52 (Nat.le_of_ble_eq_true rfl) rfl rfl ?_
        refine v_iload3 (pc := 55) K dX3_steps_55 ?_
        refine v_ic1 (pc := 56) K dX3_steps_56 ?_
        refine v_isub (pc := 57) K dX3_steps_57 ?_
        obtain ⟨j23, h24, h⟩ := bd h
        refine v_laload (pc := 58) K dX3_steps_58 (Nat.le_of_ble_eq_true rfl) rfl h24 ?_
        refine v_lsub (pc := 59) K dX3_steps_59 ?_
        obtain ⟨v25, h26, h⟩ := bd h
        refine v_cS1L (pc := 60)  K ca_yJ9_abs_067f4 ml_RX3_224 (t_J9_abs_067f4 _ K.nt K.ad s13.2 (s13.2.2 21 j21 - s13.2.2 21 j23) v25 h26) (Nat.le_of_ble_eq_true rfl) (by decide) (by decide) dX3_steps_60 ?_
        obtain ⟨v27, h28, h⟩ := bd h
        refine v_cV1U (pc := 63)  K ca_yX2_include ml_RX3_228 (Nat.le_of_ble_eq_true rfl) rfl rfl (t_X2_include _ K.nt K.ad s13.2 v25 v27 h28) (Nat.le_of_ble_eq_true rfl) (by decide) (by decide) dX3_steps_63 ?_
        refine v_iinc3 (pc := 66) (w := 1) K dX3_steps_66 rfl (Nat.le_of_ble_eq_true rfl) (by decide) ?_
        refine v_goto (pc := 69) (tgt := 24) K dX3_steps_69 (by decide) ?_
        have e := lfc h hk
        exact e
    · cases hF
      exact v_cS1X (pc := 6)  K ca_yX3_needMask ml_RX3_125 (t_X3_needMask _ K.nt K.ad s2 a1 (.error e8) _ h7) (Nat.le_of_ble_eq_true rfl) (by decide) (by decide) dX3_steps_6 hN rfl rfl
  · cases hF
    exact v_cV1X (pc := 2)  K ca_yX3_needColumn ml_RX3_66 (Nat.le_of_ble_eq_true rfl) rfl rfl (t_X3_needColumn _ K.nt K.ad σ a0 (.error e4) _ h3) (Nat.le_of_ble_eq_true rfl) (by decide) (by decide) dX3_steps_2 hN rfl rfl
set_option maxRecDepth 100000 in
def c_X3_upTo (σ : St) (a0 : Int32) (a1 : Int32) (a2 : Int32) : Option (Except String Int64 × St) :=
  (xB (c_X3_needColumn σ a0) fun _ s2 => (xB (c_X3_needRow s2 a1) fun _ s6 => (xB (c_X3_needMask s6 a2) fun _ s10 => (xB (c_X3_sumUpTo s10 a0 a2 (a1 + (1 : Int32))) fun v13 s14 => some (.ok v13, s14)))))
set_option maxHeartbeats 4000000 in
set_option maxRecDepth 100000 in
theorem t_X3_upTo (l : Launch) (hnt : l.stackTraces = false) {E : Ev} {base : Nat} (hE : Adr YC E base) (σ : St) (a0 : Int32) (a1 : Int32) (a2 : Int32) (r : Except String Int64) (σ' : St) (h : c_X3_upTo σ a0 a1 a2 = some (r, σ')) : Ctr l yX3_upTo cX3_upTo 4 (some .long) 9 164 YC E base [.ref (E.2.2 0), .int a0, .int a1, .int a2] σ (rL r) σ' := by
  unfold c_X3_upTo at h
  refine ofV 0 (by decide +kernel) rfl hE hnt (Nat.le_of_ble_eq_true rfl) rfl (fun M hN K => ?_)
  refine v_aload0 (pc := 0) K dX3_upTo_0 ?_
  refine v_iload1 (pc := 1) K dX3_upTo_1 ?_
  rcases xb h with ⟨v1, s2, h3, h⟩ | ⟨e4, s2, h3, hF⟩
  · refine v_cV1U (pc := 2) K ca_yX3_needColumn ml_RX3_66 (Nat.le_of_ble_eq_true rfl) rfl rfl (t_X3_needColumn _ K.nt K.ad σ a0 (.ok v1) s2 h3) (Nat.le_of_ble_eq_true rfl) (by decide) (by decide) dX3_upTo_2 ?_
    refine v_aload0 (pc := 5) K dX3_upTo_5 ?_
    refine v_iload2 (pc := 6) K dX3_upTo_6 ?_
    rcases xb h with ⟨v5, s6, h7, h⟩ | ⟨e8, s6, h7, hF⟩
    · refine v_cV1U (pc := 7) K ca_yX3_needRow ml_RX3_79 (Nat.le_of_ble_eq_true rfl) rfl rfl (t_X3_needRow _ K.nt K.ad s2 a1 (.ok v5) s6 h7) (Nat.le_of_ble_eq_true rfl) (by decide) (by decide) dX3_upTo_7 ?_
      refine v_iload3 (pc := 10) K dX3_upTo_10 ?_
      rcases xb h with ⟨v9, s10, h11, h⟩ | ⟨e12, s10, h11, hF⟩
      · refine v_cS1U (pc := 11) K ca_yX3_needMask ml_RX3_125 (t_X3_needMask _ K.nt K.ad s6 a2 (.ok v9) s10 h11) (Nat.le_of_ble_eq_true rfl) (by decide) (by decide) dX3_upTo_11 ?_
        refine v_aload0 (pc := 14) K dX3_upTo_14 ?_
        refine v_iload1 (pc := 15) K dX3_upTo_15 ?_
        refine v_iload3 (pc := 16) K dX3_upTo_16 ?_
        refine v_iload2 (pc := 17) K dX3_upTo_17 ?_
        refine v_ic1 (pc := 18) K dX3_upTo_18 ?_
        refine v_iadd (pc := 19) K dX3_upTo_19 ?_
        rcases xb h with ⟨v13, s14, h15, h⟩ | ⟨e16, s14, h15, hF⟩
        · refine v_cV3L (pc := 20) K ca_yX3_sumUpTo ml_RX3_186 (Nat.le_of_ble_eq_true rfl) rfl rfl (t_X3_sumUpTo _ K.nt K.ad s10 a0 a2 (a1 + (1 : Int32)) (.ok v13) s14 h15) (Nat.le_of_ble_eq_true rfl) (by decide) (by decide) dX3_upTo_20 ?_
          cases h
          exact v_lret (pc := 23) K dX3_upTo_23 rfl rfl
        · cases hF
          exact v_cV3X (pc := 20)  K ca_yX3_sumUpTo ml_RX3_186 (Nat.le_of_ble_eq_true rfl) rfl rfl (t_X3_sumUpTo _ K.nt K.ad s10 a0 a2 (a1 + (1 : Int32)) (.error e16) _ h15) (Nat.le_of_ble_eq_true rfl) (by decide) (by decide) dX3_upTo_20 hN rfl rfl
      · cases hF
        exact v_cS1X (pc := 11)  K ca_yX3_needMask ml_RX3_125 (t_X3_needMask _ K.nt K.ad s6 a2 (.error e12) _ h11) (Nat.le_of_ble_eq_true rfl) (by decide) (by decide) dX3_upTo_11 hN rfl rfl
    · cases hF
      exact v_cV1X (pc := 7)  K ca_yX3_needRow ml_RX3_79 (Nat.le_of_ble_eq_true rfl) rfl rfl (t_X3_needRow _ K.nt K.ad s2 a1 (.error e8) _ h7) (Nat.le_of_ble_eq_true rfl) (by decide) (by decide) dX3_upTo_7 hN rfl rfl
  · cases hF
    exact v_cV1X (pc := 2)  K ca_yX3_needColumn ml_RX3_66 (Nat.le_of_ble_eq_true rfl) rfl rfl (t_X3_needColumn _ K.nt K.ad σ a0 (.error e4) _ h3) (Nat.le_of_ble_eq_true rfl) (by decide) (by decide) dX3_upTo_2 hN rfl rfl
set_option maxRecDepth 100000 in
def c_X3_fold (σ : St) (a0 : Int32) (a1 : Int32) (a2 : Int32) : Option (Except String Int64 × St) :=
  (xB (c_X3_needColumn σ a0) fun _ s2 => (xB (c_X3_needMask s2 a1) fun _ s6 => ((if a2 < 0 then some (0 : Int32) else (if (2 : Int32) < a2 then some (0 : Int32) else some (1 : Int32))).bind fun (t9 : Int32) => (xB (c_X3_needArgument s6 t9) fun _ s15 => ((c_X3_gather s15 a0 a1).bind fun v18 => ((if a2 = 0 then some ((-1) : Int64) else some (0 : Int64)).bind fun (t20 : Int64) => ((lp 5000 (fun (s24 : Int64 × Int32) => (if v18.1 19 0 ≤ s24.2 then some (.inr s24.1) else ((ix s24.2 192).bind fun j32 => ((c_X3_joined v18 s24.1 (v18.2 21 j32) a2).bind fun v34 => some (.inl (v34, (s24.2 + 1))))))) (t20, (0 : Int32))).bind fun (r25 : Int64) => some (.ok r25, v18))))))))
set_option maxHeartbeats 4000000 in
set_option maxRecDepth 100000 in
theorem t_X3_fold (l : Launch) (hnt : l.stackTraces = false) {E : Ev} {base : Nat} (hE : Adr YC E base) (σ : St) (a0 : Int32) (a1 : Int32) (a2 : Int32) (r : Except String Int64) (σ' : St) (h : c_X3_fold σ a0 a1 a2 = some (r, σ')) : Ctr l yX3_fold cX3_fold 7 (some .long) 7 121 YC E base [.ref (E.2.2 0), .int a0, .int a1, .int a2] σ (rL r) σ' := by
  unfold c_X3_fold at h
  refine ofV 3 (by decide +kernel) rfl hE hnt (Nat.le_of_ble_eq_true rfl) rfl (fun M hN K => ?_)
  refine v_aload0 (pc := 0) K dX3_fold_0 ?_
  refine v_iload1 (pc := 1) K dX3_fold_1 ?_
  rcases xb h with ⟨v1, s2, h3, h⟩ | ⟨e4, s2, h3, hF⟩
  · refine v_cV1U (pc := 2) K ca_yX3_needColumn ml_RX3_66 (Nat.le_of_ble_eq_true rfl) rfl rfl (t_X3_needColumn _ K.nt K.ad σ a0 (.ok v1) s2 h3) (Nat.le_of_ble_eq_true rfl) (by decide) (by decide) dX3_fold_2 ?_
    refine v_iload2 (pc := 5) K dX3_fold_5 ?_
    rcases xb h with ⟨v5, s6, h7, h⟩ | ⟨e8, s6, h7, hF⟩
    · refine v_cS1U (pc := 6) K ca_yX3_needMask ml_RX3_125 (t_X3_needMask _ K.nt K.ad s2 a1 (.ok v5) s6 h7) (Nat.le_of_ble_eq_true rfl) (by decide) (by decide) dX3_fold_6 ?_
      refine v_iload3 (pc := 9) K dX3_fold_9 ?_
      obtain ⟨t9, h11, h⟩ := bd h
      have hJ10 : V (mkX M YC E base 7 (rL r) σ') s6 23 [some (.ref (E.2.2 0)), some (.int a0), some (.int a1), some (.int a2), none, none, none] [.int t9] := by
        rcases xb h with ⟨v14, s15, h16, h⟩ | ⟨e17, s15, h16, hF⟩
        · refine v_cS1U (pc := 23) K ca_yX3_needArgument ml_RX3_73 (t_X3_needArgument _ K.nt K.ad s6 t9 (.ok v14) s15 h16) (Nat.le_of_ble_eq_true rfl) (by decide) (by decide) dX3_fold_23 ?_
          refine v_aload0 (pc := 26) K dX3_fold_26 ?_
          refine v_iload1 (pc := 27) K dX3_fold_27 ?_
          refine v_iload2 (pc := 28) K dX3_fold_28 ?_
          obtain ⟨v18, h19, h⟩ := bd h
          refine v_cV2U (pc := 29)  K ca_yX3_gather ml_RX3_166 (Nat.le_of_ble_eq_true rfl) rfl rfl (t_X3_gather _ K.nt K.ad s15 a0 a1 v18 h19) (Nat.le_of_ble_eq_true rfl) (by decide) (by decide) dX3_fold_29 ?_
          refine v_iload3 (pc := 32) K dX3_fold_32 ?_
          obtain ⟨t20, h22, h⟩ := bd h
          have hJ21 : V (mkX M YC E base 7 (rL r) σ') v18 43 [some (.ref (E.2.2 0)), none, none, some (.int a2), none, none, none] [.long t20] := by
            refine v_lstore4 (pc := 43) K dX3_fold_43 rfl (Nat.le_of_ble_eq_true rfl) ?_
            refine v_ic0 (pc := 45) K dX3_fold_45 ?_
            refine v_istore6 (pc := 46) K dX3_fold_46 rfl (Nat.le_of_ble_eq_true rfl) ?_
            obtain ⟨r25, h27, h⟩ := bd h
            have hJ26 : V (mkX M YC E base 7 (rL r) σ') v18 84 [none, none, none, none, some (.long r25), none, none] [] := by
              refine v_lload4 (pc := 84) K dX3_fold_84 ?_
              cases h
              exact v_lret (pc := 86) K dX3_fold_86 rfl rfl
            clear h
            have hL36 := lpv h27 (fun s24 : Int64 × Int32 => V (mkX M YC E base 7 (rL r) σ') v18 48 [some (.ref (E.2.2 0)), none, none, some (.int a2), some (.long s24.1), none, some (.int s24.2)] [])
            refine hL36 (fun s24 o h hk => ?_)
            refine v_iload6 (pc := 48) K dX3_fold_48 ?_
            refine v_aload0 (pc := 50) K dX3_fold_50 ?_
            refine v_getR (pc := 51) K fl_RX3_25 dX3_fold_51 (Nat.le_of_ble_eq_true rfl) rfl rfl ?_
            refine v_getI (pc := 54) K fl_RX3_173 dX3_fold_54 (Nat.le_of_ble_eq_true rfl) rfl rfl ?_
            refine v_icmp_ge (pc := 57) (tgt := 84) K dX3_fold_57 (by decide) (fun c31 => ?_) (fun c31 => ?_)
            · have h := it c31 h
              have e := lx h hk
              cases e
              exact v_fg [false, true, true, false, true, true, false] hJ26
            · have h := ie c31 h
              refine v_lload4 (pc := 60) K dX3_fold_60 ?_
              refine v_aload0 (pc := 62) K dX3_fold_62 ?_
              refine v_getR (pc := 63) K fl_RX3_25 dX3_fold_63 (Nat.le_of_ble_eq_true rfl) rfl rfl ?_
              refine v_getR (pc := 66) K fl_RX3_190 dX3_fold_66 (Nat.le_of_ble_eq_true rfl) rfl rfl ?_
              refine v_iload6 (pc := 69) K dX3_fold_69 ?_
              obtain ⟨j32, h33, h⟩ := bd h
              refine v_laload (pc := 71) K dX3_fold_71 (Nat.le_of_ble_eq_true rfl) rfl h33 ?_
              refine v_iload3 (pc := 72) K dX3_fold_72 ?_
              obtain ⟨v34, h35, h⟩ := bd h
              refine v_cS3L (pc := 73)  K ca_yX3_joined ml_RX3_144 (t_X3_joined _ K.nt K.ad v18 s24.1 (v18.2 21 j32) a2 v34 h35) (Nat.le_of_ble_eq_true rfl) (by decide) (by decide) dX3_fold_73 ?_
              refine v_lstore4 (pc := 76) K dX3_fold_76 rfl (Nat.le_of_ble_eq_true rfl) ?_
              refine v_iinc6 (pc := 78) (w := 1) K dX3_fold_78 rfl (Nat.le_of_ble_eq_true rfl) (by decide) ?_
              refine v_goto (pc := 81) (tgt := 48) K dX3_fold_81 (by decide) ?_
              have e := lfc h hk
              exact e
          clear h
          have h := h22
          refine v_if_ne (pc := 33) (tgt := 42) K dX3_fold_33 (by decide) (fun c23 => ?_) (fun c23 => ?_)
          · have h := ie c23 h
            refine v_lc0 (pc := 42) K dX3_fold_42 ?_
            cases h
            exact (v_fg [true, false, false, true, true, true, true] hJ21)
          · have h := it c23 h
            refine v_ldc2 (pc := 36) K dX3_fold_36 cl_RX3_148 ?_
            refine v_goto (pc := 39) (tgt := 43) K dX3_fold_39 (by decide) ?_
            cases h
            exact (v_fg [true, false, false, true, true, true, true] hJ21)
        · cases hF
          exact v_cS1X (pc := 23)  K ca_yX3_needArgument ml_RX3_73 (t_X3_needArgument _ K.nt K.ad s6 t9 (.error e17) _ h16) (Nat.le_of_ble_eq_true rfl) (by decide) (by decide) dX3_fold_23 hN rfl rfl
      clear h
      have h := h11
      refine v_if_lt (pc := 10) (tgt := 22) K dX3_fold_10 (by decide) (fun c12 => ?_) (fun c12 => ?_)
      · have h := it c12 h
        refine v_ic0 (pc := 22) K dX3_fold_22 ?_
        cases h
        exact hJ10
      · have h := ie c12 h
        refine v_iload3 (pc := 13) K dX3_fold_13 ?_
        refine v_ic2 (pc := 14) K dX3_fold_14 ?_
        refine v_icmp_gt (pc := 15) (tgt := 22) K dX3_fold_15 (by decide) (fun c13 => ?_) (fun c13 => ?_)
        · have h := it c13 h
          refine v_ic0 (pc := 22) K dX3_fold_22 ?_
          cases h
          exact hJ10
        · have h := ie c13 h
          refine v_ic1 (pc := 18) K dX3_fold_18 ?_
          refine v_goto (pc := 19) (tgt := 23) K dX3_fold_19 (by decide) ?_
          cases h
          exact hJ10
    · cases hF
      exact v_cS1X (pc := 6)  K ca_yX3_needMask ml_RX3_125 (t_X3_needMask _ K.nt K.ad s2 a1 (.error e8) _ h7) (Nat.le_of_ble_eq_true rfl) (by decide) (by decide) dX3_fold_6 hN rfl rfl
  · cases hF
    exact v_cV1X (pc := 2)  K ca_yX3_needColumn ml_RX3_66 (Nat.le_of_ble_eq_true rfl) rfl rfl (t_X3_needColumn _ K.nt K.ad σ a0 (.error e4) _ h3) (Nat.le_of_ble_eq_true rfl) (by decide) (by decide) dX3_fold_2 hN rfl rfl
set_option maxRecDepth 100000 in
def c_X3_spread (σ : St) (a0 : Int32) (a1 : Int32) : Option (Except String Int64 × St) :=
  (xB (c_X3_needColumn σ a0) fun _ s2 => (xB (c_X3_needMask s2 a1) fun _ s6 => ((c_X3_gather s6 a0 a1).bind fun v9 => (if v9.1 19 0 = 0 then some (.ok (0 : Int64), v9) else ((ix (0 : Int32) 192).bind fun j12 => ((c_X2_restart v9).bind fun v14 => (eB (lp 5000 (fun (s16 : Int64 × Int32 × St) => (if v9.1 19 0 ≤ s16.2.1 then some (.inr (.inl (s16.1, s16.2.2))) else ((ix s16.2.1 192).bind fun j24 => ((c_J9_abs_067f4 s16.2.2 (s16.2.2.2 21 j24 - v9.2 21 j12)).bind fun v26 => ((if (3037000499 : Int64) < v26 then some (0 : Int32) else some (1 : Int32)).bind fun (t28 : Int32) => (xE (c_X3_needLong s16.2.2 t28) fun _ s33 => ((c_X2_includeProduct s33 ((s16.2.2.2 21 j24 - v9.2 21 j12) * (v9.1 19 0).toInt64) (s16.2.2.2 21 j24 - v9.2 21 j12)).bind fun v36 => some (.inl ((s16.1 + (s16.2.2.2 21 j24 - v9.2 21 j12)), (s16.2.1 + 1), v36))))))))) ((0 : Int64), (0 : Int32), v14)) fun (r17 : Int64 × St) => ((c_X2_includeProduct r17.2 r17.1 (-r17.1)).bind fun v38 => (xB (c_X2_exactLong v38) fun v40 s41 => some (.ok v40, s41))))))))))
set_option maxHeartbeats 4000000 in
set_option maxRecDepth 100000 in
theorem t_X3_spread (l : Launch) (hnt : l.stackTraces = false) {E : Ev} {base : Nat} (hE : Adr YC E base) (σ : St) (a0 : Int32) (a1 : Int32) (r : Except String Int64) (σ' : St) (h : c_X3_spread σ a0 a1 = some (r, σ')) : Ctr l yX3_spread cX3_spread 11 (some .long) 8 140 YC E base [.ref (E.2.2 0), .int a0, .int a1] σ (rL r) σ' := by
  unfold c_X3_spread at h
  refine ofV 8 (by decide +kernel) rfl hE hnt (Nat.le_of_ble_eq_true rfl) rfl (fun M hN K => ?_)
  refine v_aload0 (pc := 0) K dX3_spread_0 ?_
  refine v_iload1 (pc := 1) K dX3_spread_1 ?_
  rcases xb h with ⟨v1, s2, h3, h⟩ | ⟨e4, s2, h3, hF⟩
  · refine v_cV1U (pc := 2) K ca_yX3_needColumn ml_RX3_66 (Nat.le_of_ble_eq_true rfl) rfl rfl (t_X3_needColumn _ K.nt K.ad σ a0 (.ok v1) s2 h3) (Nat.le_of_ble_eq_true rfl) (by decide) (by decide) dX3_spread_2 ?_
    refine v_iload2 (pc := 5) K dX3_spread_5 ?_
    rcases xb h with ⟨v5, s6, h7, h⟩ | ⟨e8, s6, h7, hF⟩
    · refine v_cS1U (pc := 6) K ca_yX3_needMask ml_RX3_125 (t_X3_needMask _ K.nt K.ad s2 a1 (.ok v5) s6 h7) (Nat.le_of_ble_eq_true rfl) (by decide) (by decide) dX3_spread_6 ?_
      refine v_aload0 (pc := 9) K dX3_spread_9 ?_
      refine v_iload1 (pc := 10) K dX3_spread_10 ?_
      refine v_iload2 (pc := 11) K dX3_spread_11 ?_
      obtain ⟨v9, h10, h⟩ := bd h
      refine v_cV2U (pc := 12)  K ca_yX3_gather ml_RX3_166 (Nat.le_of_ble_eq_true rfl) rfl rfl (t_X3_gather _ K.nt K.ad s6 a0 a1 v9 h10) (Nat.le_of_ble_eq_true rfl) (by decide) (by decide) dX3_spread_12 ?_
      refine v_aload0 (pc := 15) K dX3_spread_15 ?_
      refine v_getR (pc := 16) K fl_RX3_25 dX3_spread_16 (Nat.le_of_ble_eq_true rfl) rfl rfl ?_
      refine v_getI (pc := 19) K fl_RX3_173 dX3_spread_19 (Nat.le_of_ble_eq_true rfl) rfl rfl ?_
      refine v_istore3 (pc := 22) K dX3_spread_22 rfl (Nat.le_of_ble_eq_true rfl) ?_
      refine v_iload3 (pc := 23) K dX3_spread_23 ?_
      refine v_if_ne (pc := 24) (tgt := 29) K dX3_spread_24 (by decide) (fun c11 => ?_) (fun c11 => ?_)
      · have h := ie c11 h
        refine v_aload0 (pc := 29) K dX3_spread_29 ?_
        refine v_getR (pc := 30) K fl_RX3_25 dX3_spread_30 (Nat.le_of_ble_eq_true rfl) rfl rfl ?_
        refine v_getR (pc := 33) K fl_RX3_190 dX3_spread_33 (Nat.le_of_ble_eq_true rfl) rfl rfl ?_
        refine v_ic0 (pc := 36) K dX3_spread_36 ?_
        obtain ⟨j12, h13, h⟩ := bd h
        refine v_laload (pc := 37) K dX3_spread_37 (Nat.le_of_ble_eq_true rfl) rfl h13 ?_
        refine v_lstore4 (pc := 38) K dX3_spread_38 rfl (Nat.le_of_ble_eq_true rfl) ?_
        refine v_lc0 (pc := 40) K dX3_spread_40 ?_
        refine v_lstore6 (pc := 41) K dX3_spread_41 rfl (Nat.le_of_ble_eq_true rfl) ?_
        refine v_aload0 (pc := 43) K dX3_spread_43 ?_
        refine v_getR (pc := 44) K fl_RX3_32 dX3_spread_44 (Nat.le_of_ble_eq_true rfl) rfl rfl ?_
        obtain ⟨v14, h15, h⟩ := bd h
        refine v_cV0U (pc := 47)  K ca_yX2_restart ml_RX3_213 (Nat.le_of_ble_eq_true rfl) rfl rfl (t_X2_restart _ K.nt K.ad v9 v14 h15) (Nat.le_of_ble_eq_true rfl) (by decide) (by decide) dX3_spread_47 ?_
        refine v_ic0 (pc := 50) K dX3_spread_50 ?_
        refine v_istore8 (pc := 51) K dX3_spread_51 rfl (Nat.le_of_ble_eq_true rfl) ?_
        obtain ⟨w22, h19, hi20, hq21⟩ := eb h
        have hJ18 : ∀ r17 : Int64 × St, w22 = .inl r17 → V (mkX M YC E base 11 (rL r) σ') r17.2 121 [some (.ref (E.2.2 0)), none, none, none, none, none, some (.long r17.1), none, none, none, none] [] := by
          intro r17 ha
          have h := hi20 _ ha
          refine v_aload0 (pc := 121) K dX3_spread_121 ?_
          refine v_getR (pc := 122) K fl_RX3_32 dX3_spread_122 (Nat.le_of_ble_eq_true rfl) rfl rfl ?_
          refine v_lload6 (pc := 125) K dX3_spread_125 ?_
          refine v_lload6 (pc := 127) K dX3_spread_127 ?_
          refine v_lneg (pc := 129) K dX3_spread_129 ?_
          obtain ⟨v38, h39, h⟩ := bd h
          refine v_cV2U (pc := 130)  K ca_yX2_includeProduct ml_RX3_216 (Nat.le_of_ble_eq_true rfl) rfl rfl (t_X2_includeProduct _ K.nt K.ad r17.2 r17.1 (-r17.1) v38 h39) (Nat.le_of_ble_eq_true rfl) (by decide) (by decide) dX3_spread_130 ?_
          refine v_aload0 (pc := 133) K dX3_spread_133 ?_
          refine v_getR (pc := 134) K fl_RX3_32 dX3_spread_134 (Nat.le_of_ble_eq_true rfl) rfl rfl ?_
          rcases xb h with ⟨v40, s41, h42, h⟩ | ⟨e43, s41, h42, hF⟩
          · refine v_cV0L (pc := 137) K ca_yX2_exactLong ml_RX3_220 (Nat.le_of_ble_eq_true rfl) rfl rfl (t_X2_exactLong _ K.nt K.ad v38 (.ok v40) s41 h42) (Nat.le_of_ble_eq_true rfl) (by decide) (by decide) dX3_spread_137 ?_
            cases h
            exact v_lret (pc := 140) K dX3_spread_140 rfl rfl
          · cases hF
            exact v_cV0X (pc := 137)  K ca_yX2_exactLong ml_RX3_220 (Nat.le_of_ble_eq_true rfl) rfl rfl (t_X2_exactLong _ K.nt K.ad v38 (.error e43) _ h42) (Nat.le_of_ble_eq_true rfl) (by decide) (by decide) dX3_spread_137 hN rfl rfl
        clear h
        refine v_fg [true, false, false, true, true, true, true, true, true, true, true] ?_
        have hL44 := lpv h19 (fun s16 : Int64 × Int32 × St => V (mkX M YC E base 11 (rL r) σ') s16.2.2 53 [some (.ref (E.2.2 0)), none, none, some (.int (v9.1 19 0)), some (.long (v9.2 21 j12)), none, some (.long s16.1), none, some (.int s16.2.1), none, none] [])
        refine hL44 (fun s16 o h hk => ?_)
        refine v_iload8 (pc := 53) K dX3_spread_53 ?_
        refine v_iload3 (pc := 55) K dX3_spread_55 ?_
        refine v_icmp_ge (pc := 56) (tgt := 121) K dX3_spread_56 (by decide) (fun c23 => ?_) (fun c23 => ?_)
        · have h := it c23 h
          have e := lx h hk
          exact v_fg [true, true, true, false, false, true, true, true, false, true, true] (hJ18 _ e.symm)
        · have h := ie c23 h
          refine v_aload0 (pc := 59) K dX3_spread_59 ?_
          refine v_getR (pc := 60) K fl_RX3_25 dX3_spread_60 (Nat.le_of_ble_eq_true rfl) rfl rfl ?_
          refine v_getR (pc := 63) K fl_RX3_190 dX3_spread_63 (Nat.le_of_ble_eq_true rfl) rfl rfl ?_
          refine v_iload8 (pc := 66) K dX3_spread_66 ?_
          obtain ⟨j24, h25, h⟩ := bd h
          refine v_laload (pc := 68) K dX3_spread_68 (Nat.le_of_ble_eq_true rfl) rfl h25 ?_
          refine v_lload4 (pc := 69) K dX3_spread_69 ?_
          refine v_lsub (pc := 71) K dX3_spread_71 ?_
          refine v_lstore9 (pc := 72) K dX3_spread_72 rfl (Nat.le_of_ble_eq_true rfl) ?_
          refine v_lload9 (pc := 74) K dX3_spread_74 ?_
          obtain ⟨v26, h27, h⟩ := bd h
          refine v_cS1L (pc := 76)  K ca_yJ9_abs_067f4 ml_RX3_224 (t_J9_abs_067f4 _ K.nt K.ad s16.2.2 (s16.2.2.2 21 j24 - v9.2 21 j12) v26 h27) (Nat.le_of_ble_eq_true rfl) (by decide) (by decide) dX3_spread_76 ?_
          refine v_ldc2 (pc := 79) K dX3_spread_79 cl_RX3_231 ?_
          obtain ⟨t28, h30, h⟩ := bd h
          have hJ29 : V (mkX M YC E base 11 (rL r) σ') s16.2.2 91 [some (.ref (E.2.2 0)), none, none, some (.int (v9.1 19 0)), some (.long (v9.2 21 j12)), none, some (.long s16.1), none, some (.int s16.2.1), some (.long (s16.2.2.2 21 j24 - v9.2 21 j12)), none] [.int t28] := by
            rcases xe h with ⟨v32, s33, h34, h⟩ | ⟨e35, s33, h34, hF⟩
            · refine v_cS1U (pc := 91) K ca_yX3_needLong ml_RX3_233 (t_X3_needLong _ K.nt K.ad s16.2.2 t28 (.ok v32) s33 h34) (Nat.le_of_ble_eq_true rfl) (by decide) (by decide) dX3_spread_91 ?_
              refine v_lload6 (pc := 94) K dX3_spread_94 ?_
              refine v_lload9 (pc := 96) K dX3_spread_96 ?_
              refine v_ladd (pc := 98) K dX3_spread_98 ?_
              refine v_lstore6 (pc := 99) K dX3_spread_99 rfl (Nat.le_of_ble_eq_true rfl) ?_
              refine v_aload0 (pc := 101) K dX3_spread_101 ?_
              refine v_getR (pc := 102) K fl_RX3_32 dX3_spread_102 (Nat.le_of_ble_eq_true rfl) rfl rfl ?_
              refine v_lload9 (pc := 105) K dX3_spread_105 ?_
              refine v_iload3 (pc := 107) K dX3_spread_107 ?_
              refine v_i2l (pc := 108) K dX3_spread_108 ?_
              refine v_lmul (pc := 109) K dX3_spread_109 ?_
              refine v_lload9 (pc := 110) K dX3_spread_110 ?_
              obtain ⟨v36, h37, h⟩ := bd h
              refine v_cV2U (pc := 112)  K ca_yX2_includeProduct ml_RX3_216 (Nat.le_of_ble_eq_true rfl) rfl rfl (t_X2_includeProduct _ K.nt K.ad s33 ((s16.2.2.2 21 j24 - v9.2 21 j12) * (v9.1 19 0).toInt64) (s16.2.2.2 21 j24 - v9.2 21 j12) v36 h37) (Nat.le_of_ble_eq_true rfl) (by decide) (by decide) dX3_spread_112 ?_
              refine v_iinc8 (pc := 115) (w := 1) K dX3_spread_115 rfl (Nat.le_of_ble_eq_true rfl) (by decide) ?_
              refine v_goto (pc := 118) (tgt := 53) K dX3_spread_118 (by decide) ?_
              have e := lfc h hk
              exact v_fg [true, true, true, true, true, true, true, true, true, false, true] e
            · have h := congrArg some (hq21 _ (lx hF hk).symm)
              cases h
              exact v_cS1X (pc := 91)  K ca_yX3_needLong ml_RX3_233 (t_X3_needLong _ K.nt K.ad s16.2.2 t28 (.error e35) _ h34) (Nat.le_of_ble_eq_true rfl) (by decide) (by decide) dX3_spread_91 hN rfl rfl
          clear h
          have h := h30
          refine v_lc_gt (pc := 82) (tgt := 90) K dX3_spread_82 dX3_spread_83 (by decide) (fun c31 => ?_) (fun c31 => ?_)
          · have h := it c31 h
            refine v_ic0 (pc := 90) K dX3_spread_90 ?_
            cases h
            exact hJ29
          · have h := ie c31 h
            refine v_ic1 (pc := 86) K dX3_spread_86 ?_
            refine v_goto (pc := 87) (tgt := 91) K dX3_spread_87 (by decide) ?_
            cases h
            exact hJ29
      · have h := it c11 h
        refine v_lc0 (pc := 27) K dX3_spread_27 ?_
        cases h
        exact v_lret (pc := 28) K dX3_spread_28 rfl rfl
    · cases hF
      exact v_cS1X (pc := 6)  K ca_yX3_needMask ml_RX3_125 (t_X3_needMask _ K.nt K.ad s2 a1 (.error e8) _ h7) (Nat.le_of_ble_eq_true rfl) (by decide) (by decide) dX3_spread_6 hN rfl rfl
  · cases hF
    exact v_cV1X (pc := 2)  K ca_yX3_needColumn ml_RX3_66 (Nat.le_of_ble_eq_true rfl) rfl rfl (t_X3_needColumn _ K.nt K.ad σ a0 (.error e4) _ h3) (Nat.le_of_ble_eq_true rfl) (by decide) (by decide) dX3_spread_2 hN rfl rfl
set_option maxRecDepth 100000 in
def c_X3_nearest (σ : St) (a0 : Int32) (a1 : Int32) (a2 : Int64) : Option (Except String Int64 × St) :=
  (xB (c_X3_needColumn σ a0) fun _ s2 => (xB (c_X3_needMask s2 a1) fun _ s6 => ((c_X3_gather s6 a0 a1).bind fun v9 => ((c_J9_min_f86c9 v9 (4611686018427387903 : Int64) a2).bind fun v11 => ((c_J9_max_f86c9 v9 ((-4611686018427387904) : Int64) v11).bind fun v13 => ((lp 5000 (fun (s15 : Int64 × Int64 × Int32) => (if v9.1 19 0 ≤ s15.2.2 then some (.inr s15.1) else ((ix s15.2.2 192).bind fun j23 => ((c_J9_abs_067f4 v9 (v9.2 21 j23 - v13)).bind fun v25 => ((if s15.1 = ((-9223372036854775808) : Int64) then some (v9.2 21 j23, v25) else (if v25 < s15.2.1 then some (v9.2 21 j23, v25) else (if v25 = s15.2.1 then (if s15.1 ≤ v9.2 21 j23 then some (s15.1, s15.2.1) else some (v9.2 21 j23, v25)) else some (s15.1, s15.2.1)))).bind fun (t27 : Int64 × Int64) => some (.inl (t27.1, t27.2, (s15.2.2 + 1)))))))) (((-9223372036854775808) : Int64), (0 : Int64), (0 : Int32))).bind fun (r16 : Int64) => some (.ok r16, v9)))))))
set_option maxHeartbeats 4000000 in
set_option maxRecDepth 100000 in
theorem t_X3_nearest (l : Launch) (hnt : l.stackTraces = false) {E : Ev} {base : Nat} (hE : Adr YC E base) (σ : St) (a0 : Int32) (a1 : Int32) (a2 : Int64) (r : Except String Int64) (σ' : St) (h : c_X3_nearest σ a0 a1 a2 = some (r, σ')) : Ctr l yX3_nearest cX3_nearest 16 (some .long) 7 121 YC E base [.ref (E.2.2 0), .int a0, .int a1, .long a2] σ (rL r) σ' := by
  unfold c_X3_nearest at h
  refine ofV 11 (by decide +kernel) rfl hE hnt (Nat.le_of_ble_eq_true rfl) rfl (fun M hN K => ?_)
  refine v_aload0 (pc := 0) K dX3_nearest_0 ?_
  refine v_iload1 (pc := 1) K dX3_nearest_1 ?_
  rcases xb h with ⟨v1, s2, h3, h⟩ | ⟨e4, s2, h3, hF⟩
  · refine v_cV1U (pc := 2) K ca_yX3_needColumn ml_RX3_66 (Nat.le_of_ble_eq_true rfl) rfl rfl (t_X3_needColumn _ K.nt K.ad σ a0 (.ok v1) s2 h3) (Nat.le_of_ble_eq_true rfl) (by decide) (by decide) dX3_nearest_2 ?_
    refine v_iload2 (pc := 5) K dX3_nearest_5 ?_
    rcases xb h with ⟨v5, s6, h7, h⟩ | ⟨e8, s6, h7, hF⟩
    · refine v_cS1U (pc := 6) K ca_yX3_needMask ml_RX3_125 (t_X3_needMask _ K.nt K.ad s2 a1 (.ok v5) s6 h7) (Nat.le_of_ble_eq_true rfl) (by decide) (by decide) dX3_nearest_6 ?_
      refine v_aload0 (pc := 9) K dX3_nearest_9 ?_
      refine v_iload1 (pc := 10) K dX3_nearest_10 ?_
      refine v_iload2 (pc := 11) K dX3_nearest_11 ?_
      obtain ⟨v9, h10, h⟩ := bd h
      refine v_cV2U (pc := 12)  K ca_yX3_gather ml_RX3_166 (Nat.le_of_ble_eq_true rfl) rfl rfl (t_X3_gather _ K.nt K.ad s6 a0 a1 v9 h10) (Nat.le_of_ble_eq_true rfl) (by decide) (by decide) dX3_nearest_12 ?_
      refine v_ldc2 (pc := 15) K dX3_nearest_15 cl_RX3_236 ?_
      refine v_ldc2 (pc := 18) K dX3_nearest_18 cl_RX3_238 ?_
      refine v_lload3 (pc := 21) K dX3_nearest_21 ?_
      obtain ⟨v11, h12, h⟩ := bd h
      refine v_cS2L (pc := 22)  K ca_yJ9_min_f86c9 ml_RX3_240 (t_J9_min_f86c9 _ K.nt K.ad v9 (4611686018427387903 : Int64) a2 v11 h12) (Nat.le_of_ble_eq_true rfl) (by decide) (by decide) dX3_nearest_22 ?_
      obtain ⟨v13, h14, h⟩ := bd h
      refine v_cS2L (pc := 25)  K ca_yJ9_max_f86c9 ml_RX3_243 (t_J9_max_f86c9 _ K.nt K.ad v9 ((-4611686018427387904) : Int64) v11 v13 h14) (Nat.le_of_ble_eq_true rfl) (by decide) (by decide) dX3_nearest_25 ?_
      refine v_lstore5 (pc := 28) K dX3_nearest_28 rfl (Nat.le_of_ble_eq_true rfl) ?_
      refine v_ldc2 (pc := 30) K dX3_nearest_30 cl_RX3_90 ?_
      refine v_lstore7 (pc := 33) K dX3_nearest_33 rfl (Nat.le_of_ble_eq_true rfl) ?_
      refine v_lc0 (pc := 35) K dX3_nearest_35 ?_
      refine v_lstore9 (pc := 36) K dX3_nearest_36 rfl (Nat.le_of_ble_eq_true rfl) ?_
      refine v_ic0 (pc := 38) K dX3_nearest_38 ?_
      refine v_istore11 (pc := 39) K dX3_nearest_39 rfl (Nat.le_of_ble_eq_true rfl) ?_
      obtain ⟨r16, h18, h⟩ := bd h
      have hJ17 : V (mkX M YC E base 16 (rL r) σ') v9 122 [none, none, none, none, none, none, none, some (.long r16), none, none, none, none, none, none, none, none] [] := by
        refine v_lload7 (pc := 122) K dX3_nearest_122 ?_
        cases h
        exact v_lret (pc := 124) K dX3_nearest_124 rfl rfl
      clear h
      refine v_fg [true, false, false, false, true, true, true, true, true, true, true, true, true, true, true, true] ?_
      have hL34 := lpv h18 (fun s15 : Int64 × Int64 × Int32 => V (mkX M YC E base 16 (rL r) σ') v9 41 [some (.ref (E.2.2 0)), none, none, none, none, some (.long v13), none, some (.long s15.1), none, some (.long s15.2.1), none, some (.int s15.2.2), none, none, none, none] [])
      refine hL34 (fun s15 o h hk => ?_)
      refine v_iload11 (pc := 41) K dX3_nearest_41 ?_
      refine v_aload0 (pc := 43) K dX3_nearest_43 ?_
      refine v_getR (pc := 44) K fl_RX3_25 dX3_nearest_44 (Nat.le_of_ble_eq_true rfl) rfl rfl ?_
      refine v_getI (pc := 47) K fl_RX3_173 dX3_nearest_47 (Nat.le_of_ble_eq_true rfl) rfl rfl ?_
      refine v_icmp_ge (pc := 50) (tgt := 122) K dX3_nearest_50 (by decide) (fun c22 => ?_) (fun c22 => ?_)
      · have h := it c22 h
        have e := lx h hk
        cases e
        exact v_fg [false, true, true, true, true, false, true, true, true, false, true, false, true, true, true, true] hJ17
      · have h := ie c22 h
        refine v_aload0 (pc := 53) K dX3_nearest_53 ?_
        refine v_getR (pc := 54) K fl_RX3_25 dX3_nearest_54 (Nat.le_of_ble_eq_true rfl) rfl rfl ?_
        refine v_getR (pc := 57) K fl_RX3_190 dX3_nearest_57 (Nat.le_of_ble_eq_true rfl) rfl rfl ?_
        refine v_iload11 (pc := 60) K dX3_nearest_60 ?_
        obtain ⟨j23, h24, h⟩ := bd h
        refine v_laload (pc := 62) K dX3_nearest_62 (Nat.le_of_ble_eq_true rfl) rfl h24 ?_
        refine v_lstore12 (pc := 63) K dX3_nearest_63 rfl (Nat.le_of_ble_eq_true rfl) ?_
        refine v_lload12 (pc := 65) K dX3_nearest_65 ?_
        refine v_lload5 (pc := 67) K dX3_nearest_67 ?_
        refine v_lsub (pc := 69) K dX3_nearest_69 ?_
        obtain ⟨v25, h26, h⟩ := bd h
        refine v_cS1L (pc := 70)  K ca_yJ9_abs_067f4 ml_RX3_224 (t_J9_abs_067f4 _ K.nt K.ad v9 (v9.2 21 j23 - v13) v25 h26) (Nat.le_of_ble_eq_true rfl) (by decide) (by decide) dX3_nearest_70 ?_
        refine v_lstore14 (pc := 73) K dX3_nearest_73 rfl (Nat.le_of_ble_eq_true rfl) ?_
        refine v_lload7 (pc := 75) K dX3_nearest_75 ?_
        refine v_ldc2 (pc := 77) K dX3_nearest_77 cl_RX3_90 ?_
        obtain ⟨t27, h29, h⟩ := bd h
        have hJ28 : V (mkX M YC E base 16 (rL r) σ') v9 116 [some (.ref (E.2.2 0)), none, none, none, none, some (.long v13), none, some (.long t27.1), none, some (.long t27.2), none, some (.int s15.2.2), none, none, none, none] [] := by
          refine v_iinc11 (pc := 116) (w := 1) K dX3_nearest_116 rfl (Nat.le_of_ble_eq_true rfl) (by decide) ?_
          refine v_goto (pc := 119) (tgt := 41) K dX3_nearest_119 (by decide) ?_
          have e := lfc h hk
          exact e
        clear h
        have h := h29
        refine v_lc_eq (pc := 80) (tgt := 108) K dX3_nearest_80 dX3_nearest_81 (by decide) (fun c30 => ?_) (fun c30 => ?_)
        · have h := it c30 h
          refine v_lload12 (pc := 108) K dX3_nearest_108 ?_
          refine v_lstore7 (pc := 110) K dX3_nearest_110 rfl (Nat.le_of_ble_eq_true rfl) ?_
          refine v_lload14 (pc := 112) K dX3_nearest_112 ?_
          refine v_lstore9 (pc := 114) K dX3_nearest_114 rfl (Nat.le_of_ble_eq_true rfl) ?_
          cases h
          exact (v_fg [true, true, true, true, true, true, true, true, true, true, true, true, false, true, false, true] hJ28)
        · have h := ie c30 h
          refine v_lload14 (pc := 84) K dX3_nearest_84 ?_
          refine v_lload9 (pc := 86) K dX3_nearest_86 ?_
          refine v_lc_lt (pc := 88) (tgt := 108) K dX3_nearest_88 dX3_nearest_89 (by decide) (fun c31 => ?_) (fun c31 => ?_)
          · have h := it c31 h
            refine v_lload12 (pc := 108) K dX3_nearest_108 ?_
            refine v_lstore7 (pc := 110) K dX3_nearest_110 rfl (Nat.le_of_ble_eq_true rfl) ?_
            refine v_lload14 (pc := 112) K dX3_nearest_112 ?_
            refine v_lstore9 (pc := 114) K dX3_nearest_114 rfl (Nat.le_of_ble_eq_true rfl) ?_
            cases h
            exact (v_fg [true, true, true, true, true, true, true, true, true, true, true, true, false, true, false, true] hJ28)
          · have h := ie c31 h
            refine v_lload14 (pc := 92) K dX3_nearest_92 ?_
            refine v_lload9 (pc := 94) K dX3_nearest_94 ?_
            refine v_lc_ne (pc := 96) (tgt := 116) K dX3_nearest_96 dX3_nearest_97 (by decide) (fun c32 => ?_) (fun c32 => ?_)
            · have h := ie c32 h
              cases h
              exact (v_fg [true, true, true, true, true, true, true, true, true, true, true, true, false, true, false, true] hJ28)
            · have h := it c32 h
              refine v_lload12 (pc := 100) K dX3_nearest_100 ?_
              refine v_lload7 (pc := 102) K dX3_nearest_102 ?_
              refine v_lc_ge (pc := 104) (tgt := 116) K dX3_nearest_104 dX3_nearest_105 (by decide) (fun c33 => ?_) (fun c33 => ?_)
              · have h := it c33 h
                cases h
                exact (v_fg [true, true, true, true, true, true, true, true, true, true, true, true, false, true, false, true] hJ28)
              · have h := ie c33 h
                refine v_lload12 (pc := 108) K dX3_nearest_108 ?_
                refine v_lstore7 (pc := 110) K dX3_nearest_110 rfl (Nat.le_of_ble_eq_true rfl) ?_
                refine v_lload14 (pc := 112) K dX3_nearest_112 ?_
                refine v_lstore9 (pc := 114) K dX3_nearest_114 rfl (Nat.le_of_ble_eq_true rfl) ?_
                cases h
                exact (v_fg [true, true, true, true, true, true, true, true, true, true, true, true, false, true, false, true] hJ28)
    · cases hF
      exact v_cS1X (pc := 6)  K ca_yX3_needMask ml_RX3_125 (t_X3_needMask _ K.nt K.ad s2 a1 (.error e8) _ h7) (Nat.le_of_ble_eq_true rfl) (by decide) (by decide) dX3_nearest_6 hN rfl rfl
  · cases hF
    exact v_cV1X (pc := 2)  K ca_yX3_needColumn ml_RX3_66 (Nat.le_of_ble_eq_true rfl) rfl rfl (t_X3_needColumn _ K.nt K.ad σ a0 (.error e4) _ h3) (Nat.le_of_ble_eq_true rfl) (by decide) (by decide) dX3_nearest_2 hN rfl rfl
