set_option maxRecDepth 100000 in
def c_X1_numbersOf (σ : St) (a0 : Int32) : Option (Int32) :=
  ((lp 5000 (fun (s1 : Int32 × Int32) => (if σ.1 1 0 ≤ s1.2 then some (.inr s1.1) else ((ix a0 6).bind fun j9 => ((ix s1.2 192).bind fun j11 => ((if σ.2 (4 + j9) j11 = ((-9223372036854775808) : Int64) then some (0 : Int32) else some (1 : Int32)).bind fun (t13 : Int32) => some (.inl ((s1.1 + t13), (s1.2 + 1)))))))) ((0 : Int32), (0 : Int32))).bind fun (r2 : Int32) => some r2)
set_option maxHeartbeats 4000000 in
set_option maxRecDepth 100000 in
theorem t_X1_numbersOf (l : Launch) (hnt : l.stackTraces = false) {E : Ev} {base : Nat} (hE : Adr YC E base) (σ : St) (a0 : Int32) (r : Int32) (h : c_X1_numbersOf σ a0 = some r) : Ctr l yX1_numbersOf cX1_numbersOf 4 (some .int) 0 0 YC E base [.ref (E.2.2 1), .int a0] σ (.ok (some (.int r))) σ := by
  unfold c_X1_numbersOf at h
  refine ofV 2 (by decide +kernel) rfl hE hnt (Nat.le_of_ble_eq_true rfl) rfl (fun M hN K => ?_)
  refine v_ic0 (pc := 0) K dX1_numbersOf_0 ?_
  refine v_istore2 (pc := 1) K dX1_numbersOf_1 rfl (Nat.le_of_ble_eq_true rfl) ?_
  refine v_ic0 (pc := 2) K dX1_numbersOf_2 ?_
  refine v_istore3 (pc := 3) K dX1_numbersOf_3 rfl (Nat.le_of_ble_eq_true rfl) ?_
  obtain ⟨r2, h4, h⟩ := bd h
  have hJ3 : V (mkX M YC E base 4 (.ok (some (.int r))) σ) σ 41 [none, none, some (.int r2), none] [] := by
    refine v_iload2 (pc := 41) K dX1_numbersOf_41 ?_
    cases h
    exact v_iret (pc := 42) K dX1_numbersOf_42 rfl rfl
  clear h
  have hL17 := lpv h4 (fun s1 : Int32 × Int32 => V (mkX M YC E base 4 (.ok (some (.int r))) σ) σ 4 [some (.ref (E.2.2 1)), some (.int a0), some (.int s1.1), some (.int s1.2)] [])
  refine hL17 (fun s1 o h hk => ?_)
  refine v_iload3 (pc := 4) K dX1_numbersOf_4 ?_
  refine v_aload0 (pc := 5) K dX1_numbersOf_5 ?_
  refine v_getI (pc := 6) K fl_RX1_23 dX1_numbersOf_6 (Nat.le_of_ble_eq_true rfl) rfl rfl ?_
  refine v_icmp_ge (pc := 9) (tgt := 41) K dX1_numbersOf_9 (by decide) (fun c8 => ?_) (fun c8 => ?_)
  · have h := it c8 h
    have e := lx h hk
    cases e
    exact v_fg [false, false, true, false] hJ3
  · have h := ie c8 h
    refine v_iload2 (pc := 12) K dX1_numbersOf_12 ?_
    refine v_aload0 (pc := 13) K dX1_numbersOf_13 ?_
    refine v_getR (pc := 14) K fl_RX1_17 dX1_numbersOf_14 (Nat.le_of_ble_eq_true rfl) rfl rfl ?_
    refine v_iload1 (pc := 17) K dX1_numbersOf_17 ?_
    obtain ⟨j9, h10, h⟩ := bd h
    refine v_aal (pc := 18) (b := 4) K dX1_numbersOf_18 (Nat.le_of_ble_eq_true rfl) rfl rfl h10 ?_
    refine v_iload3 (pc := 19) K dX1_numbersOf_19 ?_
    obtain ⟨j11, h12, h⟩ := bd h
    refine v_laload (pc := 20) K dX1_numbersOf_20 (rowC' (ix_lt h10)) (rowC (ix_lt h10)) h12 ?_
    refine v_ldc2 (pc := 21) K dX1_numbersOf_21 cl_RX1_36 ?_
    obtain ⟨t13, h15, h⟩ := bd h
    have hJ14 : V (mkX M YC E base 4 (.ok (some (.int r))) σ) σ 33 [some (.ref (E.2.2 1)), some (.int a0), none, some (.int s1.2)] [.int t13, .int s1.1] := by
      refine v_iadd (pc := 33) K dX1_numbersOf_33 ?_
      refine v_istore2 (pc := 34) K dX1_numbersOf_34 rfl (Nat.le_of_ble_eq_true rfl) ?_
      refine v_iinc3 (pc := 35) (w := 1) K dX1_numbersOf_35 rfl (Nat.le_of_ble_eq_true rfl) (by decide) ?_
      refine v_goto (pc := 38) (tgt := 4) K dX1_numbersOf_38 (by decide) ?_
      have e := lfc h hk
      exact e
    clear h
    have h := h15
    refine v_lc_ne (pc := 24) (tgt := 32) K dX1_numbersOf_24 dX1_numbersOf_25 (by decide) (fun c16 => ?_) (fun c16 => ?_)
    · have h := ie c16 h
      refine v_ic1 (pc := 32) K dX1_numbersOf_32 ?_
      cases h
      exact (v_fg [true, true, false, true] hJ14)
    · have h := it c16 h
      refine v_ic0 (pc := 28) K dX1_numbersOf_28 ?_
      refine v_goto (pc := 29) (tgt := 33) K dX1_numbersOf_29 (by decide) ?_
      cases h
      exact (v_fg [true, true, false, true] hJ14)
set_option maxRecDepth 100000 in
def c_X1_allNumbers (σ : St) : Option (Int32) :=
  ((lp 5000 (fun (s1 : Int32 × Int32) => (if σ.1 1 1 ≤ s1.2 then some (.inr s1.1) else ((c_X1_numbersOf σ s1.2).bind fun v9 => some (.inl ((s1.1 + v9), (s1.2 + 1)))))) ((0 : Int32), (0 : Int32))).bind fun (r2 : Int32) => some r2)
set_option maxHeartbeats 4000000 in
set_option maxRecDepth 100000 in
theorem t_X1_allNumbers (l : Launch) (hnt : l.stackTraces = false) {E : Ev} {base : Nat} (hE : Adr YC E base) (σ : St) (r : Int32) (h : c_X1_allNumbers σ = some r) : Ctr l yX1_allNumbers cX1_allNumbers 3 (some .int) 1 23 YC E base [.ref (E.2.2 1)] σ (.ok (some (.int r))) σ := by
  unfold c_X1_allNumbers at h
  refine ofV 2 (by decide +kernel) rfl hE hnt (Nat.le_of_ble_eq_true rfl) rfl (fun M hN K => ?_)
  refine v_ic0 (pc := 0) K dX1_allNumbers_0 ?_
  refine v_istore1 (pc := 1) K dX1_allNumbers_1 rfl (Nat.le_of_ble_eq_true rfl) ?_
  refine v_ic0 (pc := 2) K dX1_allNumbers_2 ?_
  refine v_istore2 (pc := 3) K dX1_allNumbers_3 rfl (Nat.le_of_ble_eq_true rfl) ?_
  obtain ⟨r2, h4, h⟩ := bd h
  have hJ3 : V (mkX M YC E base 3 (.ok (some (.int r))) σ) σ 26 [none, some (.int r2), none] [] := by
    refine v_iload1 (pc := 26) K dX1_allNumbers_26 ?_
    cases h
    exact v_iret (pc := 27) K dX1_allNumbers_27 rfl rfl
  clear h
  have hL11 := lpv h4 (fun s1 : Int32 × Int32 => V (mkX M YC E base 3 (.ok (some (.int r))) σ) σ 4 [some (.ref (E.2.2 1)), some (.int s1.1), some (.int s1.2)] [])
  refine hL11 (fun s1 o h hk => ?_)
  refine v_iload2 (pc := 4) K dX1_allNumbers_4 ?_
  refine v_aload0 (pc := 5) K dX1_allNumbers_5 ?_
  refine v_getI (pc := 6) K fl_RX1_27 dX1_allNumbers_6 (Nat.le_of_ble_eq_true rfl) rfl rfl ?_
  refine v_icmp_ge (pc := 9) (tgt := 26) K dX1_allNumbers_9 (by decide) (fun c8 => ?_) (fun c8 => ?_)
  · have h := it c8 h
    have e := lx h hk
    cases e
    exact v_fg [false, true, false] hJ3
  · have h := ie c8 h
    refine v_iload1 (pc := 12) K dX1_allNumbers_12 ?_
    refine v_aload0 (pc := 13) K dX1_allNumbers_13 ?_
    refine v_iload2 (pc := 14) K dX1_allNumbers_14 ?_
    obtain ⟨v9, h10, h⟩ := bd h
    refine v_cV1I (pc := 15)  K ca_yX1_numbersOf ml_RX1_38 (Nat.le_of_ble_eq_true rfl) rfl rfl (t_X1_numbersOf _ K.nt K.ad σ s1.2 v9 h10) (Nat.le_of_ble_eq_true rfl) (by decide) (by decide) dX1_allNumbers_15 ?_
    refine v_iadd (pc := 18) K dX1_allNumbers_18 ?_
    refine v_istore1 (pc := 19) K dX1_allNumbers_19 rfl (Nat.le_of_ble_eq_true rfl) ?_
    refine v_iinc2 (pc := 20) (w := 1) K dX1_allNumbers_20 rfl (Nat.le_of_ble_eq_true rfl) (by decide) ?_
    refine v_goto (pc := 23) (tgt := 4) K dX1_allNumbers_23 (by decide) ?_
    have e := lfc h hk
    exact e
set_option maxRecDepth 100000 in
def c_X1_allWidths (σ : St) : Option (Int32) :=
  ((lp 5000 (fun (s1 : Int32 × Int32) => (if σ.1 1 1 ≤ s1.2 then some (.inr s1.1) else ((ix s1.2 6).bind fun j9 => some (.inl ((s1.1 + σ.1 2 j9), (s1.2 + 1)))))) ((0 : Int32), (0 : Int32))).bind fun (r2 : Int32) => some r2)
set_option maxHeartbeats 4000000 in
set_option maxRecDepth 100000 in
theorem t_X1_allWidths (l : Launch) (hnt : l.stackTraces = false) {E : Ev} {base : Nat} (hE : Adr YC E base) (σ : St) (r : Int32) (h : c_X1_allWidths σ = some r) : Ctr l yX1_allWidths cX1_allWidths 3 (some .int) 0 0 YC E base [.ref (E.2.2 1)] σ (.ok (some (.int r))) σ := by
  unfold c_X1_allWidths at h
  refine ofV 2 (by decide +kernel) rfl hE hnt (Nat.le_of_ble_eq_true rfl) rfl (fun M hN K => ?_)
  refine v_ic0 (pc := 0) K dX1_allWidths_0 ?_
  refine v_istore1 (pc := 1) K dX1_allWidths_1 rfl (Nat.le_of_ble_eq_true rfl) ?_
  refine v_ic0 (pc := 2) K dX1_allWidths_2 ?_
  refine v_istore2 (pc := 3) K dX1_allWidths_3 rfl (Nat.le_of_ble_eq_true rfl) ?_
  obtain ⟨r2, h4, h⟩ := bd h
  have hJ3 : V (mkX M YC E base 3 (.ok (some (.int r))) σ) σ 27 [none, some (.int r2), none] [] := by
    refine v_iload1 (pc := 27) K dX1_allWidths_27 ?_
    cases h
    exact v_iret (pc := 28) K dX1_allWidths_28 rfl rfl
  clear h
  have hL11 := lpv h4 (fun s1 : Int32 × Int32 => V (mkX M YC E base 3 (.ok (some (.int r))) σ) σ 4 [some (.ref (E.2.2 1)), some (.int s1.1), some (.int s1.2)] [])
  refine hL11 (fun s1 o h hk => ?_)
  refine v_iload2 (pc := 4) K dX1_allWidths_4 ?_
  refine v_aload0 (pc := 5) K dX1_allWidths_5 ?_
  refine v_getI (pc := 6) K fl_RX1_27 dX1_allWidths_6 (Nat.le_of_ble_eq_true rfl) rfl rfl ?_
  refine v_icmp_ge (pc := 9) (tgt := 27) K dX1_allWidths_9 (by decide) (fun c8 => ?_) (fun c8 => ?_)
  · have h := it c8 h
    have e := lx h hk
    cases e
    exact v_fg [false, true, false] hJ3
  · have h := ie c8 h
    refine v_iload1 (pc := 12) K dX1_allWidths_12 ?_
    refine v_aload0 (pc := 13) K dX1_allWidths_13 ?_
    refine v_getR (pc := 14) K fl_RX1_9 dX1_allWidths_14 (Nat.le_of_ble_eq_true rfl) rfl rfl ?_
    refine v_iload2 (pc := 17) K dX1_allWidths_17 ?_
    obtain ⟨j9, h10, h⟩ := bd h
    refine v_iaload (pc := 18) K dX1_allWidths_18 (Nat.le_of_ble_eq_true rfl) rfl h10 ?_
    refine v_iadd (pc := 19) K dX1_allWidths_19 ?_
    refine v_istore1 (pc := 20) K dX1_allWidths_20 rfl (Nat.le_of_ble_eq_true rfl) ?_
    refine v_iinc2 (pc := 21) (w := 1) K dX1_allWidths_21 rfl (Nat.le_of_ble_eq_true rfl) (by decide) ?_
    refine v_goto (pc := 24) (tgt := 4) K dX1_allWidths_24 (by decide) ?_
    have e := lfc h hk
    exact e
set_option maxRecDepth 100000 in
def c_X1_emptyRows (σ : St) : Option (Int32) :=
  ((lp 5000 (fun (s1 : Int32 × Int32) => (if σ.1 1 0 ≤ s1.2 then some (.inr s1.1) else ((lp 5000 (fun (s9 : Int32 × Int32) => (if σ.1 1 1 ≤ s9.2 then some (.inr s9.1) else ((if s9.1 = 0 then some (0 : Int32) else ((ix s9.2 6).bind fun j21 => ((ix s1.2 192).bind fun j23 => (if σ.2 (4 + j21) j23 = ((-9223372036854775808) : Int64) then some (1 : Int32) else some (0 : Int32))))).bind fun (t17 : Int32) => some (.inl (t17, (s9.2 + 1)))))) ((1 : Int32), (0 : Int32))).bind fun (r10 : Int32) => ((if r10 = 0 then some (0 : Int32) else some (1 : Int32)).bind fun (t26 : Int32) => some (.inl ((s1.1 + t26), (s1.2 + 1))))))) ((0 : Int32), (0 : Int32))).bind fun (r2 : Int32) => some r2)
set_option maxHeartbeats 4000000 in
set_option maxRecDepth 100000 in
theorem t_X1_emptyRows (l : Launch) (hnt : l.stackTraces = false) {E : Ev} {base : Nat} (hE : Adr YC E base) (σ : St) (r : Int32) (h : c_X1_emptyRows σ = some r) : Ctr l yX1_emptyRows cX1_emptyRows 5 (some .int) 0 0 YC E base [.ref (E.2.2 1)] σ (.ok (some (.int r))) σ := by
  unfold c_X1_emptyRows at h
  refine ofV 4 (by decide +kernel) rfl hE hnt (Nat.le_of_ble_eq_true rfl) rfl (fun M hN K => ?_)
  refine v_ic0 (pc := 0) K dX1_emptyRows_0 ?_
  refine v_istore1 (pc := 1) K dX1_emptyRows_1 rfl (Nat.le_of_ble_eq_true rfl) ?_
  refine v_ic0 (pc := 2) K dX1_emptyRows_2 ?_
  refine v_istore2 (pc := 3) K dX1_emptyRows_3 rfl (Nat.le_of_ble_eq_true rfl) ?_
  obtain ⟨r2, h4, h⟩ := bd h
  have hJ3 : V (mkX M YC E base 5 (.ok (some (.int r))) σ) σ 76 [none, some (.int r2), none, none, none] [] := by
    refine v_iload1 (pc := 76) K dX1_emptyRows_76 ?_
    cases h
    exact v_iret (pc := 77) K dX1_emptyRows_77 rfl rfl
  clear h
  have hL31 := lpv h4 (fun s1 : Int32 × Int32 => V (mkX M YC E base 5 (.ok (some (.int r))) σ) σ 4 [some (.ref (E.2.2 1)), some (.int s1.1), some (.int s1.2), none, none] [])
  refine hL31 (fun s1 o h hk => ?_)
  refine v_iload2 (pc := 4) K dX1_emptyRows_4 ?_
  refine v_aload0 (pc := 5) K dX1_emptyRows_5 ?_
  refine v_getI (pc := 6) K fl_RX1_23 dX1_emptyRows_6 (Nat.le_of_ble_eq_true rfl) rfl rfl ?_
  refine v_icmp_ge (pc := 9) (tgt := 76) K dX1_emptyRows_9 (by decide) (fun c8 => ?_) (fun c8 => ?_)
  · have h := it c8 h
    have e := lx h hk
    cases e
    exact v_fg [false, true, false, true, true] hJ3
  · have h := ie c8 h
    refine v_ic1 (pc := 12) K dX1_emptyRows_12 ?_
    refine v_istore3 (pc := 13) K dX1_emptyRows_13 rfl (Nat.le_of_ble_eq_true rfl) ?_
    refine v_ic0 (pc := 14) K dX1_emptyRows_14 ?_
    refine v_istore4 (pc := 15) K dX1_emptyRows_15 rfl (Nat.le_of_ble_eq_true rfl) ?_
    obtain ⟨r10, h12, h⟩ := bd h
    have hJ11 : V (mkX M YC E base 5 (.ok (some (.int r))) σ) σ 58 [some (.ref (E.2.2 1)), some (.int s1.1), some (.int s1.2), some (.int r10), none] [] := by
      refine v_iload1 (pc := 58) K dX1_emptyRows_58 ?_
      refine v_iload3 (pc := 59) K dX1_emptyRows_59 ?_
      obtain ⟨t26, h28, h⟩ := bd h
      have hJ27 : V (mkX M YC E base 5 (.ok (some (.int r))) σ) σ 68 [some (.ref (E.2.2 1)), none, some (.int s1.2), none, none] [.int t26, .int s1.1] := by
        refine v_iadd (pc := 68) K dX1_emptyRows_68 ?_
        refine v_istore1 (pc := 69) K dX1_emptyRows_69 rfl (Nat.le_of_ble_eq_true rfl) ?_
        refine v_iinc2 (pc := 70) (w := 1) K dX1_emptyRows_70 rfl (Nat.le_of_ble_eq_true rfl) (by decide) ?_
        refine v_goto (pc := 73) (tgt := 4) K dX1_emptyRows_73 (by decide) ?_
        have e := lfc h hk
        exact e
      clear h
      have h := h28
      refine v_if_eq (pc := 60) (tgt := 67) K dX1_emptyRows_60 (by decide) (fun c29 => ?_) (fun c29 => ?_)
      · have h := it c29 h
        refine v_ic0 (pc := 67) K dX1_emptyRows_67 ?_
        cases h
        exact (v_fg [true, false, true, false, true] hJ27)
      · have h := ie c29 h
        refine v_ic1 (pc := 63) K dX1_emptyRows_63 ?_
        refine v_goto (pc := 64) (tgt := 68) K dX1_emptyRows_64 (by decide) ?_
        cases h
        exact (v_fg [true, false, true, false, true] hJ27)
    clear h
    have hL30 := lpv h12 (fun s9 : Int32 × Int32 => V (mkX M YC E base 5 (.ok (some (.int r))) σ) σ 17 [some (.ref (E.2.2 1)), some (.int s1.1), some (.int s1.2), some (.int s9.1), some (.int s9.2)] [])
    refine hL30 (fun s9 o h hk => ?_)
    refine v_iload4 (pc := 17) K dX1_emptyRows_17 ?_
    refine v_aload0 (pc := 19) K dX1_emptyRows_19 ?_
    refine v_getI (pc := 20) K fl_RX1_27 dX1_emptyRows_20 (Nat.le_of_ble_eq_true rfl) rfl rfl ?_
    refine v_icmp_ge (pc := 23) (tgt := 58) K dX1_emptyRows_23 (by decide) (fun c16 => ?_) (fun c16 => ?_)
    · have h := it c16 h
      have e := lx h hk
      cases e
      exact v_fg [true, true, true, true, false] hJ11
    · have h := ie c16 h
      refine v_iload3 (pc := 26) K dX1_emptyRows_26 ?_
      obtain ⟨t17, h19, h⟩ := bd h
      have hJ18 : V (mkX M YC E base 5 (.ok (some (.int r))) σ) σ 51 [some (.ref (E.2.2 1)), some (.int s1.1), some (.int s1.2), none, some (.int s9.2)] [.int t17] := by
        refine v_istore3 (pc := 51) K dX1_emptyRows_51 rfl (Nat.le_of_ble_eq_true rfl) ?_
        refine v_iinc4 (pc := 52) (w := 1) K dX1_emptyRows_52 rfl (Nat.le_of_ble_eq_true rfl) (by decide) ?_
        refine v_goto (pc := 55) (tgt := 17) K dX1_emptyRows_55 (by decide) ?_
        have e := lfc h hk
        exact e
      clear h
      have h := h19
      refine v_if_eq (pc := 27) (tgt := 50) K dX1_emptyRows_27 (by decide) (fun c20 => ?_) (fun c20 => ?_)
      · have h := it c20 h
        refine v_ic0 (pc := 50) K dX1_emptyRows_50 ?_
        cases h
        exact (v_fg [true, true, true, false, true] hJ18)
      · have h := ie c20 h
        refine v_aload0 (pc := 30) K dX1_emptyRows_30 ?_
        refine v_getR (pc := 31) K fl_RX1_17 dX1_emptyRows_31 (Nat.le_of_ble_eq_true rfl) rfl rfl ?_
        refine v_iload4 (pc := 34) K dX1_emptyRows_34 ?_
        obtain ⟨j21, h22, h⟩ := bd h
        refine v_aal (pc := 36) (b := 4) K dX1_emptyRows_36 (Nat.le_of_ble_eq_true rfl) rfl rfl h22 ?_
        refine v_iload2 (pc := 37) K dX1_emptyRows_37 ?_
        obtain ⟨j23, h24, h⟩ := bd h
        refine v_laload (pc := 38) K dX1_emptyRows_38 (rowC' (ix_lt h22)) (rowC (ix_lt h22)) h24 ?_
        refine v_ldc2 (pc := 39) K dX1_emptyRows_39 cl_RX1_36 ?_
        refine v_lc_ne (pc := 42) (tgt := 50) K dX1_emptyRows_42 dX1_emptyRows_43 (by decide) (fun c25 => ?_) (fun c25 => ?_)
        · have h := ie c25 h
          refine v_ic0 (pc := 50) K dX1_emptyRows_50 ?_
          cases h
          exact (v_fg [true, true, true, false, true] hJ18)
        · have h := it c25 h
          refine v_ic1 (pc := 46) K dX1_emptyRows_46 ?_
          refine v_goto (pc := 47) (tgt := 51) K dX1_emptyRows_47 (by decide) ?_
          cases h
          exact (v_fg [true, true, true, false, true] hJ18)
set_option maxRecDepth 100000 in
def c_X3_has (σ : St) (a0 : Int32) : Option (Int32) :=
  (if a0 = 0 then some (σ.1 1 0) else (if a0 = 1 then some (σ.1 1 1) else (if a0 = 2 then ((c_X1_allNumbers σ).bind fun v4 => some v4) else (if a0 = 3 then ((c_X1_allNumbers σ).bind fun v7 => some ((σ.1 1 0 * σ.1 1 1) - v7)) else (if a0 = 4 then ((c_X1_allWidths σ).bind fun v10 => some v10) else (if a0 = 5 then ((c_X1_emptyRows σ).bind fun v13 => some v13) else (if a0 = 6 then some (σ.1 0 6) else some ((-1) : Int32))))))))
set_option maxHeartbeats 4000000 in
set_option maxRecDepth 100000 in
theorem t_X3_has (l : Launch) (hnt : l.stackTraces = false) {E : Ev} {base : Nat} (hE : Adr YC E base) (σ : St) (a0 : Int32) (r : Int32) (h : c_X3_has σ a0 = some r) : Ctr l yX3_has cX3_has 2 (some .int) 2 45 YC E base [.ref (E.2.2 0), .int a0] σ (.ok (some (.int r))) σ := by
  unfold c_X3_has at h
  refine ofV 0 (by decide +kernel) rfl hE hnt (Nat.le_of_ble_eq_true rfl) rfl (fun M hN K => ?_)
  refine v_iload1 (pc := 0) K dX3_has_0 ?_
  by_cases c1 : a0 = 0
  · have h := it c1 h
    refine v_tsIn (pc := 1) (k := 0) (tgt := 44) K dX3_has_1 (by rw [c1]; rfl) (by decide) rfl (by decide) ?_
    refine v_aload0 (pc := 44) K dX3_has_44 ?_
    refine v_getR (pc := 45) K fl_RX3_14 dX3_has_45 (Nat.le_of_ble_eq_true rfl) rfl rfl ?_
    refine v_getI (pc := 48) K fl_RX3_76 dX3_has_48 (Nat.le_of_ble_eq_true rfl) rfl rfl ?_
    cases h
    exact v_iret (pc := 51) K dX3_has_51 rfl rfl
  have h := ie c1 h
  by_cases c2 : a0 = 1
  · have h := it c2 h
    refine v_tsIn (pc := 1) (k := 1) (tgt := 52) K dX3_has_1 (by rw [c2]; rfl) (by decide) rfl (by decide) ?_
    refine v_aload0 (pc := 52) K dX3_has_52 ?_
    refine v_getR (pc := 53) K fl_RX3_14 dX3_has_53 (Nat.le_of_ble_eq_true rfl) rfl rfl ?_
    refine v_getI (pc := 56) K fl_RX3_51 dX3_has_56 (Nat.le_of_ble_eq_true rfl) rfl rfl ?_
    cases h
    exact v_iret (pc := 59) K dX3_has_59 rfl rfl
  have h := ie c2 h
  by_cases c3 : a0 = 2
  · have h := it c3 h
    refine v_tsIn (pc := 1) (k := 2) (tgt := 60) K dX3_has_1 (by rw [c3]; rfl) (by decide) rfl (by decide) ?_
    refine v_aload0 (pc := 60) K dX3_has_60 ?_
    refine v_getR (pc := 61) K fl_RX3_14 dX3_has_61 (Nat.le_of_ble_eq_true rfl) rfl rfl ?_
    obtain ⟨v4, h5, h⟩ := bd h
    refine v_cV0I (pc := 64)  K ca_yX1_allNumbers ml_RX3_92 (Nat.le_of_ble_eq_true rfl) rfl rfl (t_X1_allNumbers _ K.nt K.ad σ v4 h5) (Nat.le_of_ble_eq_true rfl) (by decide) (by decide) dX3_has_64 ?_
    cases h
    exact v_iret (pc := 67) K dX3_has_67 rfl rfl
  have h := ie c3 h
  by_cases c6 : a0 = 3
  · have h := it c6 h
    refine v_tsIn (pc := 1) (k := 3) (tgt := 68) K dX3_has_1 (by rw [c6]; rfl) (by decide) rfl (by decide) ?_
    refine v_aload0 (pc := 68) K dX3_has_68 ?_
    refine v_getR (pc := 69) K fl_RX3_14 dX3_has_69 (Nat.le_of_ble_eq_true rfl) rfl rfl ?_
    refine v_getI (pc := 72) K fl_RX3_76 dX3_has_72 (Nat.le_of_ble_eq_true rfl) rfl rfl ?_
    refine v_aload0 (pc := 75) K dX3_has_75 ?_
    refine v_getR (pc := 76) K fl_RX3_14 dX3_has_76 (Nat.le_of_ble_eq_true rfl) rfl rfl ?_
    refine v_getI (pc := 79) K fl_RX3_51 dX3_has_79 (Nat.le_of_ble_eq_true rfl) rfl rfl ?_
    refine v_imul (pc := 82) K dX3_has_82 ?_
    refine v_aload0 (pc := 83) K dX3_has_83 ?_
    refine v_getR (pc := 84) K fl_RX3_14 dX3_has_84 (Nat.le_of_ble_eq_true rfl) rfl rfl ?_
    obtain ⟨v7, h8, h⟩ := bd h
    refine v_cV0I (pc := 87)  K ca_yX1_allNumbers ml_RX3_92 (Nat.le_of_ble_eq_true rfl) rfl rfl (t_X1_allNumbers _ K.nt K.ad σ v7 h8) (Nat.le_of_ble_eq_true rfl) (by decide) (by decide) dX3_has_87 ?_
    refine v_isub (pc := 90) K dX3_has_90 ?_
    cases h
    exact v_iret (pc := 91) K dX3_has_91 rfl rfl
  have h := ie c6 h
  by_cases c9 : a0 = 4
  · have h := it c9 h
    refine v_tsIn (pc := 1) (k := 4) (tgt := 92) K dX3_has_1 (by rw [c9]; rfl) (by decide) rfl (by decide) ?_
    refine v_aload0 (pc := 92) K dX3_has_92 ?_
    refine v_getR (pc := 93) K fl_RX3_14 dX3_has_93 (Nat.le_of_ble_eq_true rfl) rfl rfl ?_
    obtain ⟨v10, h11, h⟩ := bd h
    refine v_cV0I (pc := 96)  K ca_yX1_allWidths ml_RX3_96 (Nat.le_of_ble_eq_true rfl) rfl rfl (t_X1_allWidths _ K.nt K.ad σ v10 h11) (Nat.le_of_ble_eq_true rfl) (by decide) (by decide) dX3_has_96 ?_
    cases h
    exact v_iret (pc := 99) K dX3_has_99 rfl rfl
  have h := ie c9 h
  by_cases c12 : a0 = 5
  · have h := it c12 h
    refine v_tsIn (pc := 1) (k := 5) (tgt := 100) K dX3_has_1 (by rw [c12]; rfl) (by decide) rfl (by decide) ?_
    refine v_aload0 (pc := 100) K dX3_has_100 ?_
    refine v_getR (pc := 101) K fl_RX3_14 dX3_has_101 (Nat.le_of_ble_eq_true rfl) rfl rfl ?_
    obtain ⟨v13, h14, h⟩ := bd h
    refine v_cV0I (pc := 104)  K ca_yX1_emptyRows ml_RX3_99 (Nat.le_of_ble_eq_true rfl) rfl rfl (t_X1_emptyRows _ K.nt K.ad σ v13 h14) (Nat.le_of_ble_eq_true rfl) (by decide) (by decide) dX3_has_104 ?_
    cases h
    exact v_iret (pc := 107) K dX3_has_107 rfl rfl
  have h := ie c12 h
  by_cases c15 : a0 = 6
  · have h := it c15 h
    refine v_tsIn (pc := 1) (k := 6) (tgt := 108) K dX3_has_1 (by rw [c15]; rfl) (by decide) rfl (by decide) ?_
    refine v_aload0 (pc := 108) K dX3_has_108 ?_
    refine v_getI (pc := 109) K fl_RX3_43 dX3_has_109 (Nat.le_of_ble_eq_true rfl) rfl rfl ?_
    cases h
    exact v_iret (pc := 112) K dX3_has_112 rfl rfl
  have h := ie c15 h
  refine v_tsOut (pc := 1) (tgt := 113) K dX3_has_1 (ts_out 7 (by decide) (fun k hk => by match k, hk with | 0, _ => exact fun q => c1 q | 1, _ => exact fun q => c2 q | 2, _ => exact fun q => c3 q | 3, _ => exact fun q => c6 q | 4, _ => exact fun q => c9 q | 5, _ => exact fun q => c12 q | 6, _ => exact fun q => c15 q)) (by decide) ?_
  refine v_icm1 (pc := 113) K dX3_has_113 ?_
  cases h
  exact v_iret (pc := 114) K dX3_has_114 rfl rfl
set_option maxRecDepth 100000 in
def c_X0_restart (σ : St) : Option (St) :=
  some (sI σ 19 0 (0 : Int32))
set_option maxHeartbeats 4000000 in
set_option maxRecDepth 100000 in
theorem t_X0_restart (l : Launch) (hnt : l.stackTraces = false) {E : Ev} {base : Nat} (hE : Adr YC E base) (σ : St) (r : St) (h : c_X0_restart σ = some r) : Ctr l yX0_restart cX0_restart 1 none 0 0 YC E base [.ref (E.2.2 19)] σ (.ok none) r := by
  unfold c_X0_restart at h
  refine ofV 0 (by decide +kernel) rfl hE hnt (Nat.le_of_ble_eq_true rfl) rfl (fun M hN K => ?_)
  refine v_aload0 (pc := 0) K dX0_restart_0 ?_
  refine v_ic0 (pc := 1) K dX0_restart_1 ?_
  refine v_put (pc := 2) K fw_RX0_25 dX0_restart_2 rfl rfl (Nat.le_of_ble_eq_true rfl) rfl rfl ?_
  cases h
  exact v_vret (pc := 5) K dX0_restart_5 rfl rfl
set_option maxRecDepth 100000 in
def c_X0_take (σ : St) (a0 : Int32) (a1 : Int64) : Option (St) :=
  ((if (192 : Int32) ≤ σ.1 19 0 then some σ else ((ix (σ.1 19 0) 192).bind fun j5 => ((ix ((sI σ 20 j5 a0).1 19 0) 192).bind fun j7 => some (sI (sL (sI σ 20 j5 a0) 21 j7 a1) 19 0 ((sL (sI σ 20 j5 a0) 21 j7 a1).1 19 0 + (1 : Int32)))))).bind fun (t1 : St) => some t1)
set_option maxHeartbeats 4000000 in
set_option maxRecDepth 100000 in
theorem t_X0_take (l : Launch) (hnt : l.stackTraces = false) {E : Ev} {base : Nat} (hE : Adr YC E base) (σ : St) (a0 : Int32) (a1 : Int64) (r : St) (h : c_X0_take σ a0 a1 = some r) : Ctr l yX0_take cX0_take 4 none 0 0 YC E base [.ref (E.2.2 19), .int a0, .long a1] σ (.ok none) r := by
  unfold c_X0_take at h
  refine ofV 0 (by decide +kernel) rfl hE hnt (Nat.le_of_ble_eq_true rfl) rfl (fun M hN K => ?_)
  refine v_aload0 (pc := 0) K dX0_take_0 ?_
  refine v_getI (pc := 1) K fl_RX0_25 dX0_take_1 (Nat.le_of_ble_eq_true rfl) rfl rfl ?_
  refine v_sipush (pc := 4) (v := 192) K dX0_take_4 (by decide) ?_
  obtain ⟨t1, h3, h⟩ := bd h
  have hJ2 : V (mkX M YC E base 4 (.ok none) r) t1 40 [none, none, none, none] [] := by
    cases h
    exact v_vret (pc := 40) K dX0_take_40 rfl rfl
  clear h
  have h := h3
  refine v_icmp_ge (pc := 7) (tgt := 40) K dX0_take_7 (by decide) (fun c4 => ?_) (fun c4 => ?_)
  · have h := it c4 h
    cases h
    exact (v_fg [false, false, false, true] hJ2)
  · have h := ie c4 h
    refine v_aload0 (pc := 10) K dX0_take_10 ?_
    refine v_getR (pc := 11) K fl_RX0_9 dX0_take_11 (Nat.le_of_ble_eq_true rfl) rfl rfl ?_
    refine v_aload0 (pc := 14) K dX0_take_14 ?_
    refine v_getI (pc := 15) K fl_RX0_25 dX0_take_15 (Nat.le_of_ble_eq_true rfl) rfl rfl ?_
    refine v_iload1 (pc := 18) K dX0_take_18 ?_
    obtain ⟨j5, h6, h⟩ := bd h
    refine v_iastore (pc := 19) K dX0_take_19 (Nat.le_of_ble_eq_true rfl) rfl h6 ?_
    refine v_aload0 (pc := 20) K dX0_take_20 ?_
    refine v_getR (pc := 21) K fl_RX0_15 dX0_take_21 (Nat.le_of_ble_eq_true rfl) rfl rfl ?_
    refine v_aload0 (pc := 24) K dX0_take_24 ?_
    refine v_getI (pc := 25) K fl_RX0_25 dX0_take_25 (Nat.le_of_ble_eq_true rfl) rfl rfl ?_
    refine v_lload2 (pc := 28) K dX0_take_28 ?_
    obtain ⟨j7, h8, h⟩ := bd h
    refine v_lastore (pc := 29) K dX0_take_29 (Nat.le_of_ble_eq_true rfl) rfl h8 ?_
    refine v_aload0 (pc := 30) K dX0_take_30 ?_
    refine v_dupR (pc := 31) K dX0_take_31 ?_
    refine v_getI (pc := 32) K fl_RX0_25 dX0_take_32 (Nat.le_of_ble_eq_true rfl) rfl rfl ?_
    refine v_ic1 (pc := 35) K dX0_take_35 ?_
    refine v_iadd (pc := 36) K dX0_take_36 ?_
    refine v_put (pc := 37) K fw_RX0_25 dX0_take_37 rfl rfl (Nat.le_of_ble_eq_true rfl) rfl rfl ?_
    cases h
    exact (v_fg [false, false, false, true] hJ2)
set_option maxRecDepth 100000 in
def c_X3_expectAsItIs (σ : St) (a0 : Int32) : Option (St) :=
  ((lp 5000 (fun (s1 : Int32 × St) => (if s1.2.1 1 0 ≤ s1.1 then some (.inr s1.2) else ((ix a0 6).bind fun j9 => ((ix s1.1 192).bind fun j11 => ((ix s1.1 192).bind fun j13 => some (.inl ((s1.1 + 1), (sL s1.2 27 j13 (s1.2.2 (4 + j9) j11))))))))) ((0 : Int32), σ)).bind fun (r2 : St) => some r2)
set_option maxHeartbeats 4000000 in
set_option maxRecDepth 100000 in
theorem t_X3_expectAsItIs (l : Launch) (hnt : l.stackTraces = false) {E : Ev} {base : Nat} (hE : Adr YC E base) (σ : St) (a0 : Int32) (r : St) (h : c_X3_expectAsItIs σ a0 = some r) : Ctr l yX3_expectAsItIs cX3_expectAsItIs 3 none 0 0 YC E base [.ref (E.2.2 0), .int a0] σ (.ok none) r := by
  unfold c_X3_expectAsItIs at h
  refine ofV 1 (by decide +kernel) rfl hE hnt (Nat.le_of_ble_eq_true rfl) rfl (fun M hN K => ?_)
  refine v_ic0 (pc := 0) K dX3_expectAsItIs_0 ?_
  refine v_istore2 (pc := 1) K dX3_expectAsItIs_1 rfl (Nat.le_of_ble_eq_true rfl) ?_
  obtain ⟨r2, h4, h⟩ := bd h
  have hJ3 : V (mkX M YC E base 3 (.ok none) r) r2 36 [none, none, none] [] := by
    cases h
    exact v_vret (pc := 36) K dX3_expectAsItIs_36 rfl rfl
  clear h
  have hL15 := lpv h4 (fun s1 : Int32 × St => V (mkX M YC E base 3 (.ok none) r) s1.2 2 [some (.ref (E.2.2 0)), some (.int a0), some (.int s1.1)] [])
  refine hL15 (fun s1 o h hk => ?_)
  refine v_iload2 (pc := 2) K dX3_expectAsItIs_2 ?_
  refine v_aload0 (pc := 3) K dX3_expectAsItIs_3 ?_
  refine v_getR (pc := 4) K fl_RX3_14 dX3_expectAsItIs_4 (Nat.le_of_ble_eq_true rfl) rfl rfl ?_
  refine v_getI (pc := 7) K fl_RX3_76 dX3_expectAsItIs_7 (Nat.le_of_ble_eq_true rfl) rfl rfl ?_
  refine v_icmp_ge (pc := 10) (tgt := 36) K dX3_expectAsItIs_10 (by decide) (fun c8 => ?_) (fun c8 => ?_)
  · have h := it c8 h
    have e := lx h hk
    cases e
    exact v_fg [false, false, false] hJ3
  · have h := ie c8 h
    refine v_aload0 (pc := 13) K dX3_expectAsItIs_13 ?_
    refine v_getR (pc := 14) K fl_RX3_40 dX3_expectAsItIs_14 (Nat.le_of_ble_eq_true rfl) rfl rfl ?_
    refine v_iload2 (pc := 17) K dX3_expectAsItIs_17 ?_
    refine v_aload0 (pc := 18) K dX3_expectAsItIs_18 ?_
    refine v_getR (pc := 19) K fl_RX3_14 dX3_expectAsItIs_19 (Nat.le_of_ble_eq_true rfl) rfl rfl ?_
    refine v_getR (pc := 22) K fl_RX3_86 dX3_expectAsItIs_22 (Nat.le_of_ble_eq_true rfl) rfl rfl ?_
    refine v_iload1 (pc := 25) K dX3_expectAsItIs_25 ?_
    obtain ⟨j9, h10, h⟩ := bd h
    refine v_aal (pc := 26) (b := 4) K dX3_expectAsItIs_26 (Nat.le_of_ble_eq_true rfl) rfl rfl h10 ?_
    refine v_iload2 (pc := 27) K dX3_expectAsItIs_27 ?_
    obtain ⟨j11, h12, h⟩ := bd h
    refine v_laload (pc := 28) K dX3_expectAsItIs_28 (rowC' (ix_lt h10)) (rowC (ix_lt h10)) h12 ?_
    obtain ⟨j13, h14, h⟩ := bd h
    refine v_lastore (pc := 29) K dX3_expectAsItIs_29 (Nat.le_of_ble_eq_true rfl) rfl h14 ?_
    refine v_iinc2 (pc := 30) (w := 1) K dX3_expectAsItIs_30 rfl (Nat.le_of_ble_eq_true rfl) (by decide) ?_
    refine v_goto (pc := 33) (tgt := 2) K dX3_expectAsItIs_33 (by decide) ?_
    have e := lfc h hk
    exact e
set_option maxRecDepth 100000 in
def c_X3_begin (σ : St) : Option (St) :=
  ((lp 5000 (fun (s1 : Int32 × St) => (if (3 : Int32) ≤ s1.1 then some (.inr s1.2) else ((ix s1.1 3).bind fun j9 => some (.inl ((s1.1 + 1), (sL s1.2 26 j9 (0 : Int64))))))) ((0 : Int32), σ)).bind fun (r2 : St) => some r2)
set_option maxHeartbeats 4000000 in
set_option maxRecDepth 100000 in
theorem t_X3_begin (l : Launch) (hnt : l.stackTraces = false) {E : Ev} {base : Nat} (hE : Adr YC E base) (σ : St) (r : St) (h : c_X3_begin σ = some r) : Ctr l yX3_begin cX3_begin 2 none 0 0 YC E base [.ref (E.2.2 0)] σ (.ok none) r := by
  unfold c_X3_begin at h
  refine ofV 1 (by decide +kernel) rfl hE hnt (Nat.le_of_ble_eq_true rfl) rfl (fun M hN K => ?_)
  refine v_ic0 (pc := 0) K dX3_begin_0 ?_
  refine v_istore1 (pc := 1) K dX3_begin_1 rfl (Nat.le_of_ble_eq_true rfl) ?_
  obtain ⟨r2, h4, h⟩ := bd h
  have hJ3 : V (mkX M YC E base 2 (.ok none) r) r2 20 [none, none] [] := by
    cases h
    exact v_vret (pc := 20) K dX3_begin_20 rfl rfl
  clear h
  have hL11 := lpv h4 (fun s1 : Int32 × St => V (mkX M YC E base 2 (.ok none) r) s1.2 2 [some (.ref (E.2.2 0)), some (.int s1.1)] [])
  refine hL11 (fun s1 o h hk => ?_)
  refine v_iload1 (pc := 2) K dX3_begin_2 ?_
  refine v_ic3 (pc := 3) K dX3_begin_3 ?_
  refine v_icmp_ge (pc := 4) (tgt := 20) K dX3_begin_4 (by decide) (fun c8 => ?_) (fun c8 => ?_)
  · have h := it c8 h
    have e := lx h hk
    cases e
    exact v_fg [false, false] hJ3
  · have h := ie c8 h
    refine v_aload0 (pc := 7) K dX3_begin_7 ?_
    refine v_getR (pc := 8) K fl_RX3_36 dX3_begin_8 (Nat.le_of_ble_eq_true rfl) rfl rfl ?_
    refine v_iload1 (pc := 11) K dX3_begin_11 ?_
    refine v_lc0 (pc := 12) K dX3_begin_12 ?_
    obtain ⟨j9, h10, h⟩ := bd h
    refine v_lastore (pc := 13) K dX3_begin_13 (Nat.le_of_ble_eq_true rfl) rfl h10 ?_
    refine v_iinc1 (pc := 14) (w := 1) K dX3_begin_14 rfl (Nat.le_of_ble_eq_true rfl) (by decide) ?_
    refine v_goto (pc := 17) (tgt := 2) K dX3_begin_17 (by decide) ?_
    have e := lfc h hk
    exact e
set_option maxRecDepth 100000 in
def c_X3_isIn (σ : St) (a0 : Nat) (a1 : Int32) : Option (Int32) :=
  ((ix (a1 / (64 : Int32)) 3).bind fun j1 => ((if ((σ.2 a0 j1 >>> (((a1 - a1 / (64 : Int32) * (64 : Int32))).toInt64 &&& 63)) &&& (1 : Int64)) = (0 : Int64) then some (0 : Int32) else some (1 : Int32)).bind fun (t3 : Int32) => some (nz t3)))
set_option maxHeartbeats 4000000 in
set_option maxRecDepth 100000 in
theorem t_X3_isIn (l : Launch) (hnt : l.stackTraces = false) {E : Ev} {base : Nat} (hE : Adr YC E base) (σ : St) (a0 : Nat) (g0 : a0 < 28) (y0 : layC a0 = (0, 3)) (a1 : Int32) (r : Int32) (h : c_X3_isIn σ a0 a1 = some r) : Ctr l yX3_isIn cX3_isIn 2 (some .boolean) 0 0 YC E base [.ref (E.2.2 a0), .int a1] σ (.ok (some (.int r))) σ := by
  unfold c_X3_isIn at h
  refine ofV 0 (by decide +kernel) rfl hE hnt (Nat.le_of_ble_eq_true rfl) rfl (fun M hN K => ?_)
  refine v_aload0 (pc := 0) K dX3_isIn_0 ?_
  refine v_iload1 (pc := 1) K dX3_isIn_1 ?_
  refine v_bipush (pc := 2) (v := 64) K dX3_isIn_2 (by decide) ?_
  refine v_idiv (pc := 4) K dX3_isIn_4 (by decide) ?_
  obtain ⟨j1, h2, h⟩ := bd h
  refine v_laload (pc := 5) K dX3_isIn_5 g0 y0 h2 ?_
  refine v_iload1 (pc := 6) K dX3_isIn_6 ?_
  refine v_bipush (pc := 7) (v := 64) K dX3_isIn_7 (by decide) ?_
  refine v_irem (pc := 9) K dX3_isIn_9 (by decide) ?_
  refine v_lshr (pc := 10) K dX3_isIn_10 ?_
  refine v_lc1 (pc := 11) K dX3_isIn_11 ?_
  refine v_land (pc := 12) K dX3_isIn_12 ?_
  refine v_lc0 (pc := 13) K dX3_isIn_13 ?_
  obtain ⟨t3, h5, h⟩ := bd h
  have hJ4 : V (mkX M YC E base 2 (.ok (some (.int r))) σ) σ 23 [none, none] [.int t3] := by
    cases h
    exact v_zret (pc := 23) K dX3_isIn_23 rfl rfl
  clear h
  have h := h5
  refine v_lc_eq (pc := 14) (tgt := 22) K dX3_isIn_14 dX3_isIn_15 (by decide) (fun c6 => ?_) (fun c6 => ?_)
  · have h := it c6 h
    refine v_ic0 (pc := 22) K dX3_isIn_22 ?_
    cases h
    exact (v_fg [false, false] hJ4)
  · have h := ie c6 h
    refine v_ic1 (pc := 18) K dX3_isIn_18 ?_
    refine v_goto (pc := 19) (tgt := 23) K dX3_isIn_19 (by decide) ?_
    cases h
    exact (v_fg [false, false] hJ4)
set_option maxRecDepth 100000 in
def c_X1_isUnder (σ : St) (a0 : Int32) (a1 : Int32) : Option (Int32) :=
  ((ix a1 8).bind fun j1 => ((c_X3_isIn σ (11 + j1) a0).bind fun v3 => some (nz v3)))
set_option maxHeartbeats 4000000 in
set_option maxRecDepth 100000 in
theorem t_X1_isUnder (l : Launch) (hnt : l.stackTraces = false) {E : Ev} {base : Nat} (hE : Adr YC E base) (σ : St) (a0 : Int32) (a1 : Int32) (r : Int32) (h : c_X1_isUnder σ a0 a1 = some r) : Ctr l yX1_isUnder cX1_isUnder 3 (some .boolean) 1 21 YC E base [.ref (E.2.2 1), .int a0, .int a1] σ (.ok (some (.int r))) σ := by
  unfold c_X1_isUnder at h
  refine ofV 0 (by decide +kernel) rfl hE hnt (Nat.le_of_ble_eq_true rfl) rfl (fun M hN K => ?_)
  refine v_aload0 (pc := 0) K dX1_isUnder_0 ?_
  refine v_getR (pc := 1) K fl_RX1_20 dX1_isUnder_1 (Nat.le_of_ble_eq_true rfl) rfl rfl ?_
  refine v_iload2 (pc := 4) K dX1_isUnder_4 ?_
  obtain ⟨j1, h2, h⟩ := bd h
  refine v_aal (pc := 5) (b := 11) K dX1_isUnder_5 (Nat.le_of_ble_eq_true rfl) rfl rfl h2 ?_
  refine v_iload1 (pc := 6) K dX1_isUnder_6 ?_
  obtain ⟨v3, h4, h⟩ := bd h
  refine v_cN2I (pc := 7) (host := "SliceColumns") K ca_yX3_isIn (by decide +kernel) (t_X3_isIn _ K.nt K.ad σ (11 + j1) (mskC' (ix_lt h2)) (mskC (ix_lt h2)) a0 v3 h4) (Nat.le_of_ble_eq_true rfl) (by decide) (by decide) dX1_isUnder_7 ?_
  cases h
  exact v_zret (pc := 10) K dX1_isUnder_10 rfl rfl
set_option maxRecDepth 100000 in
def c_X3_include (σ : St) (a0 : Int32) : Option (St) :=
  ((if a0 < 0 then some σ else (if σ.1 1 0 ≤ a0 then some σ else ((ix (a0 / (64 : Int32)) 3).bind fun j6 => ((ix (a0 / (64 : Int32)) 3).bind fun j8 => some (sL σ 26 j8 (σ.2 26 j6 ||| ((1 : Int64) <<< (((a0 - a0 / (64 : Int32) * (64 : Int32))).toInt64 &&& 63)))))))).bind fun (t1 : St) => some t1)
set_option maxHeartbeats 4000000 in
set_option maxRecDepth 100000 in
theorem t_X3_include (l : Launch) (hnt : l.stackTraces = false) {E : Ev} {base : Nat} (hE : Adr YC E base) (σ : St) (a0 : Int32) (r : St) (h : c_X3_include σ a0 = some r) : Ctr l yX3_include cX3_include 2 none 0 0 YC E base [.ref (E.2.2 0), .int a0] σ (.ok none) r := by
  unfold c_X3_include at h
  refine ofV 0 (by decide +kernel) rfl hE hnt (Nat.le_of_ble_eq_true rfl) rfl (fun M hN K => ?_)
  refine v_iload1 (pc := 0) K dX3_include_0 ?_
  obtain ⟨t1, h3, h⟩ := bd h
  have hJ2 : V (mkX M YC E base 2 (.ok none) r) t1 33 [none, none] [] := by
    cases h
    exact v_vret (pc := 33) K dX3_include_33 rfl rfl
  clear h
  have h := h3
  refine v_if_lt (pc := 1) (tgt := 33) K dX3_include_1 (by decide) (fun c4 => ?_) (fun c4 => ?_)
  · have h := it c4 h
    cases h
    exact (v_fg [false, false] hJ2)
  · have h := ie c4 h
    refine v_iload1 (pc := 4) K dX3_include_4 ?_
    refine v_aload0 (pc := 5) K dX3_include_5 ?_
    refine v_getR (pc := 6) K fl_RX3_14 dX3_include_6 (Nat.le_of_ble_eq_true rfl) rfl rfl ?_
    refine v_getI (pc := 9) K fl_RX3_76 dX3_include_9 (Nat.le_of_ble_eq_true rfl) rfl rfl ?_
    refine v_icmp_ge (pc := 12) (tgt := 33) K dX3_include_12 (by decide) (fun c5 => ?_) (fun c5 => ?_)
    · have h := it c5 h
      cases h
      exact (v_fg [false, false] hJ2)
    · have h := ie c5 h
      refine v_aload0 (pc := 15) K dX3_include_15 ?_
      refine v_getR (pc := 16) K fl_RX3_36 dX3_include_16 (Nat.le_of_ble_eq_true rfl) rfl rfl ?_
      refine v_iload1 (pc := 19) K dX3_include_19 ?_
      refine v_bipush (pc := 20) (v := 64) K dX3_include_20 (by decide) ?_
      refine v_idiv (pc := 22) K dX3_include_22 (by decide) ?_
      refine v_dup2IR (pc := 23) K dX3_include_23 ?_
      obtain ⟨j6, h7, h⟩ := bd h
      refine v_laload (pc := 24) K dX3_include_24 (Nat.le_of_ble_eq_true rfl) rfl h7 ?_
      refine v_lc1 (pc := 25) K dX3_include_25 ?_
      refine v_iload1 (pc := 26) K dX3_include_26 ?_
      refine v_bipush (pc := 27) (v := 64) K dX3_include_27 (by decide) ?_
      refine v_irem (pc := 29) K dX3_include_29 (by decide) ?_
      refine v_lshl (pc := 30) K dX3_include_30 ?_
      refine v_lor (pc := 31) K dX3_include_31 ?_
      obtain ⟨j8, h9, h⟩ := bd h
      refine v_lastore (pc := 32) K dX3_include_32 (Nat.le_of_ble_eq_true rfl) rfl h9 ?_
      cases h
      exact (v_fg [false, false] hJ2)
set_option maxRecDepth 100000 in
def c_X1_maskCount (σ : St) (a0 : Int32) : Option (Int32) :=
  ((lp 5000 (fun (s1 : Int32 × Int32) => (if (3 : Int32) ≤ s1.2 then some (.inr s1.1) else ((ix a0 8).bind fun j9 => ((ix s1.2 3).bind fun j11 => ((c_J13_bitCount_95d88 σ (σ.2 (11 + j9) j11)).bind fun v13 => some (.inl ((s1.1 + v13), (s1.2 + 1)))))))) ((0 : Int32), (0 : Int32))).bind fun (r2 : Int32) => some r2)
set_option maxHeartbeats 4000000 in
set_option maxRecDepth 100000 in
theorem t_X1_maskCount (l : Launch) (hnt : l.stackTraces = false) {E : Ev} {base : Nat} (hE : Adr YC E base) (σ : St) (a0 : Int32) (r : Int32) (h : c_X1_maskCount σ a0 = some r) : Ctr l yX1_maskCount cX1_maskCount 4 (some .int) 1 21 YC E base [.ref (E.2.2 1), .int a0] σ (.ok (some (.int r))) σ := by
  unfold c_X1_maskCount at h
  refine ofV 2 (by decide +kernel) rfl hE hnt (Nat.le_of_ble_eq_true rfl) rfl (fun M hN K => ?_)
  refine v_ic0 (pc := 0) K dX1_maskCount_0 ?_
  refine v_istore2 (pc := 1) K dX1_maskCount_1 rfl (Nat.le_of_ble_eq_true rfl) ?_
  refine v_ic0 (pc := 2) K dX1_maskCount_2 ?_
  refine v_istore3 (pc := 3) K dX1_maskCount_3 rfl (Nat.le_of_ble_eq_true rfl) ?_
  obtain ⟨r2, h4, h⟩ := bd h
  have hJ3 : V (mkX M YC E base 4 (.ok (some (.int r))) σ) σ 29 [none, none, some (.int r2), none] [] := by
    refine v_iload2 (pc := 29) K dX1_maskCount_29 ?_
    cases h
    exact v_iret (pc := 30) K dX1_maskCount_30 rfl rfl
  clear h
  have hL15 := lpv h4 (fun s1 : Int32 × Int32 => V (mkX M YC E base 4 (.ok (some (.int r))) σ) σ 4 [some (.ref (E.2.2 1)), some (.int a0), some (.int s1.1), some (.int s1.2)] [])
  refine hL15 (fun s1 o h hk => ?_)
  refine v_iload3 (pc := 4) K dX1_maskCount_4 ?_
  refine v_ic3 (pc := 5) K dX1_maskCount_5 ?_
  refine v_icmp_ge (pc := 6) (tgt := 29) K dX1_maskCount_6 (by decide) (fun c8 => ?_) (fun c8 => ?_)
  · have h := it c8 h
    have e := lx h hk
    cases e
    exact v_fg [false, false, true, false] hJ3
  · have h := ie c8 h
    refine v_iload2 (pc := 9) K dX1_maskCount_9 ?_
    refine v_aload0 (pc := 10) K dX1_maskCount_10 ?_
    refine v_getR (pc := 11) K fl_RX1_20 dX1_maskCount_11 (Nat.le_of_ble_eq_true rfl) rfl rfl ?_
    refine v_iload1 (pc := 14) K dX1_maskCount_14 ?_
    obtain ⟨j9, h10, h⟩ := bd h
    refine v_aal (pc := 15) (b := 11) K dX1_maskCount_15 (Nat.le_of_ble_eq_true rfl) rfl rfl h10 ?_
    refine v_iload3 (pc := 16) K dX1_maskCount_16 ?_
    obtain ⟨j11, h12, h⟩ := bd h
    refine v_laload (pc := 17) K dX1_maskCount_17 (mskC' (ix_lt h10)) (mskC (ix_lt h10)) h12 ?_
    obtain ⟨v13, h14, h⟩ := bd h
    refine v_cS1I (pc := 18)  K ca_yJ13_bitCount_95d88 ml_RX1_58 (t_J13_bitCount_95d88 _ K.nt K.ad σ (σ.2 (11 + j9) j11) v13 h14) (Nat.le_of_ble_eq_true rfl) (by decide) (by decide) dX1_maskCount_18 ?_
    refine v_iadd (pc := 21) K dX1_maskCount_21 ?_
    refine v_istore2 (pc := 22) K dX1_maskCount_22 rfl (Nat.le_of_ble_eq_true rfl) ?_
    refine v_iinc3 (pc := 23) (w := 1) K dX1_maskCount_23 rfl (Nat.le_of_ble_eq_true rfl) (by decide) ?_
    refine v_goto (pc := 26) (tgt := 4) K dX1_maskCount_26 (by decide) ?_
    have e := lfc h hk
    exact e
set_option maxRecDepth 100000 in
def c_X3_become (σ : St) (a0 : Int32) : Option (Int32 × St) :=
  ((lp 5000 (fun (s1 : Int32 × St) => (if (3 : Int32) ≤ s1.1 then some (.inr s1.2) else ((ix a0 8).bind fun j9 => ((ix s1.1 3).bind fun j11 => ((ix s1.1 3).bind fun j13 => some (.inl ((s1.1 + 1), (sL s1.2 (11 + j9) j13 (s1.2.2 26 j11))))))))) ((0 : Int32), σ)).bind fun (r2 : St) => ((c_X1_maskCount r2 a0).bind fun v15 => some (v15, r2)))
set_option maxHeartbeats 4000000 in
set_option maxRecDepth 100000 in
theorem t_X3_become (l : Launch) (hnt : l.stackTraces = false) {E : Ev} {base : Nat} (hE : Adr YC E base) (σ : St) (a0 : Int32) (r : Int32 × St) (h : c_X3_become σ a0 = some r) : Ctr l yX3_become cX3_become 3 (some .int) 2 44 YC E base [.ref (E.2.2 0), .int a0] σ (.ok (some (.int r.1))) r.2 := by
  unfold c_X3_become at h
  refine ofV 1 (by decide +kernel) rfl hE hnt (Nat.le_of_ble_eq_true rfl) rfl (fun M hN K => ?_)
  refine v_ic0 (pc := 0) K dX3_become_0 ?_
  refine v_istore2 (pc := 1) K dX3_become_1 rfl (Nat.le_of_ble_eq_true rfl) ?_
  obtain ⟨r2, h4, h⟩ := bd h
  have hJ3 : V (mkX M YC E base 3 (.ok (some (.int r.1))) r.2) r2 30 [some (.ref (E.2.2 0)), some (.int a0), none] [] := by
    refine v_aload0 (pc := 30) K dX3_become_30 ?_
    refine v_getR (pc := 31) K fl_RX3_14 dX3_become_31 (Nat.le_of_ble_eq_true rfl) rfl rfl ?_
    refine v_iload1 (pc := 34) K dX3_become_34 ?_
    obtain ⟨v15, h16, h⟩ := bd h
    refine v_cV1I (pc := 35)  K ca_yX1_maskCount ml_RX3_141 (Nat.le_of_ble_eq_true rfl) rfl rfl (t_X1_maskCount _ K.nt K.ad r2 a0 v15 h16) (Nat.le_of_ble_eq_true rfl) (by decide) (by decide) dX3_become_35 ?_
    cases h
    exact v_iret (pc := 38) K dX3_become_38 rfl rfl
  clear h
  have hL17 := lpv h4 (fun s1 : Int32 × St => V (mkX M YC E base 3 (.ok (some (.int r.1))) r.2) s1.2 2 [some (.ref (E.2.2 0)), some (.int a0), some (.int s1.1)] [])
  refine hL17 (fun s1 o h hk => ?_)
  refine v_iload2 (pc := 2) K dX3_become_2 ?_
  refine v_ic3 (pc := 3) K dX3_become_3 ?_
  refine v_icmp_ge (pc := 4) (tgt := 30) K dX3_become_4 (by decide) (fun c8 => ?_) (fun c8 => ?_)
  · have h := it c8 h
    have e := lx h hk
    cases e
    exact v_fg [true, true, false] hJ3
  · have h := ie c8 h
    refine v_aload0 (pc := 7) K dX3_become_7 ?_
    refine v_getR (pc := 8) K fl_RX3_14 dX3_become_8 (Nat.le_of_ble_eq_true rfl) rfl rfl ?_
    refine v_getR (pc := 11) K fl_RX3_134 dX3_become_11 (Nat.le_of_ble_eq_true rfl) rfl rfl ?_
    refine v_iload1 (pc := 14) K dX3_become_14 ?_
    obtain ⟨j9, h10, h⟩ := bd h
    refine v_aal (pc := 15) (b := 11) K dX3_become_15 (Nat.le_of_ble_eq_true rfl) rfl rfl h10 ?_
    refine v_iload2 (pc := 16) K dX3_become_16 ?_
    refine v_aload0 (pc := 17) K dX3_become_17 ?_
    refine v_getR (pc := 18) K fl_RX3_36 dX3_become_18 (Nat.le_of_ble_eq_true rfl) rfl rfl ?_
    refine v_iload2 (pc := 21) K dX3_become_21 ?_
    obtain ⟨j11, h12, h⟩ := bd h
    refine v_laload (pc := 22) K dX3_become_22 (Nat.le_of_ble_eq_true rfl) rfl h12 ?_
    obtain ⟨j13, h14, h⟩ := bd h
    refine v_lastore (pc := 23) K dX3_become_23 (mskC' (ix_lt h10)) (mskC (ix_lt h10)) h14 ?_
    refine v_iinc2 (pc := 24) (w := 1) K dX3_become_24 rfl (Nat.le_of_ble_eq_true rfl) (by decide) ?_
    refine v_goto (pc := 27) (tgt := 2) K dX3_become_27 (by decide) ?_
    have e := lfc h hk
    exact e
set_option maxRecDepth 100000 in
def c_X0_howManyElsewhere (σ : St) : Option (Int32) :=
  ((lp 5000 (fun (s1 : Int32 × Int32) => (if σ.1 19 0 ≤ s1.2 then some (.inr s1.1) else ((ix s1.2 192).bind fun j9 => ((if σ.1 20 j9 = s1.2 then some (0 : Int32) else some (1 : Int32)).bind fun (t11 : Int32) => some (.inl ((s1.1 + t11), (s1.2 + 1))))))) ((0 : Int32), (0 : Int32))).bind fun (r2 : Int32) => some r2)
set_option maxHeartbeats 4000000 in
set_option maxRecDepth 100000 in
theorem t_X0_howManyElsewhere (l : Launch) (hnt : l.stackTraces = false) {E : Ev} {base : Nat} (hE : Adr YC E base) (σ : St) (r : Int32) (h : c_X0_howManyElsewhere σ = some r) : Ctr l yX0_howManyElsewhere cX0_howManyElsewhere 3 (some .int) 0 0 YC E base [.ref (E.2.2 19)] σ (.ok (some (.int r))) σ := by
  unfold c_X0_howManyElsewhere at h
  refine ofV 2 (by decide +kernel) rfl hE hnt (Nat.le_of_ble_eq_true rfl) rfl (fun M hN K => ?_)
  refine v_ic0 (pc := 0) K dX0_howManyElsewhere_0 ?_
  refine v_istore1 (pc := 1) K dX0_howManyElsewhere_1 rfl (Nat.le_of_ble_eq_true rfl) ?_
  refine v_ic0 (pc := 2) K dX0_howManyElsewhere_2 ?_
  refine v_istore2 (pc := 3) K dX0_howManyElsewhere_3 rfl (Nat.le_of_ble_eq_true rfl) ?_
  obtain ⟨r2, h4, h⟩ := bd h
  have hJ3 : V (mkX M YC E base 3 (.ok (some (.int r))) σ) σ 36 [none, some (.int r2), none] [] := by
    refine v_iload1 (pc := 36) K dX0_howManyElsewhere_36 ?_
    cases h
    exact v_iret (pc := 37) K dX0_howManyElsewhere_37 rfl rfl
  clear h
  have hL15 := lpv h4 (fun s1 : Int32 × Int32 => V (mkX M YC E base 3 (.ok (some (.int r))) σ) σ 4 [some (.ref (E.2.2 19)), some (.int s1.1), some (.int s1.2)] [])
  refine hL15 (fun s1 o h hk => ?_)
  refine v_iload2 (pc := 4) K dX0_howManyElsewhere_4 ?_
  refine v_aload0 (pc := 5) K dX0_howManyElsewhere_5 ?_
  refine v_getI (pc := 6) K fl_RX0_25 dX0_howManyElsewhere_6 (Nat.le_of_ble_eq_true rfl) rfl rfl ?_
  refine v_icmp_ge (pc := 9) (tgt := 36) K dX0_howManyElsewhere_9 (by decide) (fun c8 => ?_) (fun c8 => ?_)
  · have h := it c8 h
    have e := lx h hk
    cases e
    exact v_fg [false, true, false] hJ3
  · have h := ie c8 h
    refine v_iload1 (pc := 12) K dX0_howManyElsewhere_12 ?_
    refine v_aload0 (pc := 13) K dX0_howManyElsewhere_13 ?_
    refine v_getR (pc := 14) K fl_RX0_9 dX0_howManyElsewhere_14 (Nat.le_of_ble_eq_true rfl) rfl rfl ?_
    refine v_iload2 (pc := 17) K dX0_howManyElsewhere_17 ?_
    obtain ⟨j9, h10, h⟩ := bd h
    refine v_iaload (pc := 18) K dX0_howManyElsewhere_18 (Nat.le_of_ble_eq_true rfl) rfl h10 ?_
    refine v_iload2 (pc := 19) K dX0_howManyElsewhere_19 ?_
    obtain ⟨t11, h13, h⟩ := bd h
    have hJ12 : V (mkX M YC E base 3 (.ok (some (.int r))) σ) σ 28 [some (.ref (E.2.2 19)), none, some (.int s1.2)] [.int t11, .int s1.1] := by
      refine v_iadd (pc := 28) K dX0_howManyElsewhere_28 ?_
      refine v_istore1 (pc := 29) K dX0_howManyElsewhere_29 rfl (Nat.le_of_ble_eq_true rfl) ?_
      refine v_iinc2 (pc := 30) (w := 1) K dX0_howManyElsewhere_30 rfl (Nat.le_of_ble_eq_true rfl) (by decide) ?_
      refine v_goto (pc := 33) (tgt := 4) K dX0_howManyElsewhere_33 (by decide) ?_
      have e := lfc h hk
      exact e
    clear h
    have h := h13
    refine v_icmp_ne (pc := 20) (tgt := 27) K dX0_howManyElsewhere_20 (by decide) (fun c14 => ?_) (fun c14 => ?_)
    · have h := ie c14 h
      refine v_ic1 (pc := 27) K dX0_howManyElsewhere_27 ?_
      cases h
      exact (v_fg [true, false, true] hJ12)
    · have h := it c14 h
      refine v_ic0 (pc := 23) K dX0_howManyElsewhere_23 ?_
      refine v_goto (pc := 24) (tgt := 28) K dX0_howManyElsewhere_24 (by decide) ?_
      cases h
      exact (v_fg [true, false, true] hJ12)
set_option maxRecDepth 100000 in
def c_X3_arrange (σ : St) : Option (Int32 × St) :=
  ((lp 5000 (fun (s1 : Int32 × St) => (if s1.2.1 1 1 ≤ s1.1 then some (.inr s1.2) else ((c_X3_expectAsItIs s1.2 s1.1).bind fun v9 => ((lp 5000 (fun (s11 : Int32 × St) => (if s11.2.1 19 0 ≤ s11.1 then some (.inr s11.2) else ((ix s1.1 6).bind fun j19 => ((ix s11.1 192).bind fun j21 => ((ix (s11.2.1 20 j21) 192).bind fun j23 => ((ix s11.1 192).bind fun j25 => some (.inl ((s11.1 + 1), (sL s11.2 (4 + j19) j25 (s11.2.2 27 j23)))))))))) ((0 : Int32), v9)).bind fun (r12 : St) => some (.inl ((s1.1 + 1), r12)))))) ((0 : Int32), σ)).bind fun (r2 : St) => ((lp 5000 (fun (s28 : Int32 × St) => (if (8 : Int32) ≤ s28.1 then some (.inr s28.2) else ((c_X3_begin s28.2).bind fun v36 => ((lp 5000 (fun (s38 : Int32 × St) => (if s38.2.1 19 0 ≤ s38.1 then some (.inr s38.2) else ((ix s38.1 192).bind fun j46 => ((c_X1_isUnder s38.2 (s38.2.1 20 j46) s28.1).bind fun v48 => ((if v48 = 0 then some s38.2 else ((c_X3_include s38.2 s38.1).bind fun v54 => some v54)).bind fun (t50 : St) => some (.inl ((s38.1 + 1), t50))))))) ((0 : Int32), v36)).bind fun (r39 : St) => ((c_X3_become r39 s28.1).bind fun v56 => some (.inl ((s28.1 + 1), v56.2))))))) ((0 : Int32), r2)).bind fun (r29 : St) => ((c_X0_howManyElsewhere (sI r29 1 0 (r29.1 19 0))).bind fun v59 => some (v59, (sI r29 1 0 (r29.1 19 0))))))
set_option maxHeartbeats 4000000 in
set_option maxRecDepth 100000 in
theorem t_X3_arrange (l : Launch) (hnt : l.stackTraces = false) {E : Ev} {base : Nat} (hE : Adr YC E base) (σ : St) (r : Int32 × St) (h : c_X3_arrange σ = some r) : Ctr l yX3_arrange cX3_arrange 3 (some .int) 3 66 YC E base [.ref (E.2.2 0)] σ (.ok (some (.int r.1))) r.2 := by
  unfold c_X3_arrange at h
  refine ofV 2 (by decide +kernel) rfl hE hnt (Nat.le_of_ble_eq_true rfl) rfl (fun M hN K => ?_)
  refine v_ic0 (pc := 0) K dX3_arrange_0 ?_
  refine v_istore1 (pc := 1) K dX3_arrange_1 rfl (Nat.le_of_ble_eq_true rfl) ?_
  obtain ⟨r2, h4, h⟩ := bd h
  have hJ3 : V (mkX M YC E base 3 (.ok (some (.int r.1))) r.2) r2 68 [some (.ref (E.2.2 0)), none, none] [] := by
    refine v_ic0 (pc := 68) K dX3_arrange_68 ?_
    refine v_istore1 (pc := 69) K dX3_arrange_69 rfl (Nat.le_of_ble_eq_true rfl) ?_
    obtain ⟨r29, h31, h⟩ := bd h
    have hJ30 : V (mkX M YC E base 3 (.ok (some (.int r.1))) r.2) r29 136 [some (.ref (E.2.2 0)), none, none] [] := by
      refine v_aload0 (pc := 136) K dX3_arrange_136 ?_
      refine v_getR (pc := 137) K fl_RX3_14 dX3_arrange_137 (Nat.le_of_ble_eq_true rfl) rfl rfl ?_
      refine v_aload0 (pc := 140) K dX3_arrange_140 ?_
      refine v_getR (pc := 141) K fl_RX3_25 dX3_arrange_141 (Nat.le_of_ble_eq_true rfl) rfl rfl ?_
      refine v_getI (pc := 144) K fl_RX3_173 dX3_arrange_144 (Nat.le_of_ble_eq_true rfl) rfl rfl ?_
      refine v_put (pc := 147) K fw_RX3_76 dX3_arrange_147 rfl rfl (Nat.le_of_ble_eq_true rfl) rfl rfl ?_
      refine v_aload0 (pc := 150) K dX3_arrange_150 ?_
      refine v_getR (pc := 151) K fl_RX3_25 dX3_arrange_151 (Nat.le_of_ble_eq_true rfl) rfl rfl ?_
      obtain ⟨v59, h60, h⟩ := bd h
      refine v_cV0I (pc := 154)  K ca_yX0_howManyElsewhere ml_RX3_341 (Nat.le_of_ble_eq_true rfl) rfl rfl (t_X0_howManyElsewhere _ K.nt K.ad (sI r29 1 0 (r29.1 19 0)) v59 h60) (Nat.le_of_ble_eq_true rfl) (by decide) (by decide) dX3_arrange_154 ?_
      cases h
      exact v_iret (pc := 157) K dX3_arrange_157 rfl rfl
    clear h
    have hL61 := lpv h31 (fun s28 : Int32 × St => V (mkX M YC E base 3 (.ok (some (.int r.1))) r.2) s28.2 70 [some (.ref (E.2.2 0)), some (.int s28.1), none] [])
    refine hL61 (fun s28 o h hk => ?_)
    refine v_iload1 (pc := 70) K dX3_arrange_70 ?_
    refine v_bipush (pc := 71) (v := 8) K dX3_arrange_71 (by decide) ?_
    refine v_icmp_ge (pc := 73) (tgt := 136) K dX3_arrange_73 (by decide) (fun c35 => ?_) (fun c35 => ?_)
    · have h := it c35 h
      have e := lx h hk
      cases e
      exact v_fg [true, false, true] hJ30
    · have h := ie c35 h
      refine v_aload0 (pc := 76) K dX3_arrange_76 ?_
      obtain ⟨v36, h37, h⟩ := bd h
      refine v_cV0U (pc := 77)  K ca_yX3_begin ml_RX3_115 (Nat.le_of_ble_eq_true rfl) rfl rfl (t_X3_begin _ K.nt K.ad s28.2 v36 h37) (Nat.le_of_ble_eq_true rfl) (by decide) (by decide) dX3_arrange_77 ?_
      refine v_ic0 (pc := 80) K dX3_arrange_80 ?_
      refine v_istore2 (pc := 81) K dX3_arrange_81 rfl (Nat.le_of_ble_eq_true rfl) ?_
      obtain ⟨r39, h41, h⟩ := bd h
      have hJ40 : V (mkX M YC E base 3 (.ok (some (.int r.1))) r.2) r39 124 [some (.ref (E.2.2 0)), some (.int s28.1), none] [] := by
        refine v_aload0 (pc := 124) K dX3_arrange_124 ?_
        refine v_iload1 (pc := 125) K dX3_arrange_125 ?_
        obtain ⟨v56, h57, h⟩ := bd h
        refine v_cV1I (pc := 126)  K ca_yX3_become ml_RX3_131 (Nat.le_of_ble_eq_true rfl) rfl rfl (t_X3_become _ K.nt K.ad r39 s28.1 v56 h57) (Nat.le_of_ble_eq_true rfl) (by decide) (by decide) dX3_arrange_126 ?_
        refine v_popI (pc := 129) K dX3_arrange_129 ?_
        refine v_iinc1 (pc := 130) (w := 1) K dX3_arrange_130 rfl (Nat.le_of_ble_eq_true rfl) (by decide) ?_
        refine v_goto (pc := 133) (tgt := 70) K dX3_arrange_133 (by decide) ?_
        have e := lfc h hk
        exact e
      clear h
      have hL58 := lpv h41 (fun s38 : Int32 × St => V (mkX M YC E base 3 (.ok (some (.int r.1))) r.2) s38.2 82 [some (.ref (E.2.2 0)), some (.int s28.1), some (.int s38.1)] [])
      refine hL58 (fun s38 o h hk => ?_)
      refine v_iload2 (pc := 82) K dX3_arrange_82 ?_
      refine v_aload0 (pc := 83) K dX3_arrange_83 ?_
      refine v_getR (pc := 84) K fl_RX3_25 dX3_arrange_84 (Nat.le_of_ble_eq_true rfl) rfl rfl ?_
      refine v_getI (pc := 87) K fl_RX3_173 dX3_arrange_87 (Nat.le_of_ble_eq_true rfl) rfl rfl ?_
      refine v_icmp_ge (pc := 90) (tgt := 124) K dX3_arrange_90 (by decide) (fun c45 => ?_) (fun c45 => ?_)
      · have h := it c45 h
        have e := lx h hk
        cases e
        exact v_fg [true, true, false] hJ40
      · have h := ie c45 h
        refine v_aload0 (pc := 93) K dX3_arrange_93 ?_
        refine v_getR (pc := 94) K fl_RX3_14 dX3_arrange_94 (Nat.le_of_ble_eq_true rfl) rfl rfl ?_
        refine v_aload0 (pc := 97) K dX3_arrange_97 ?_
        refine v_getR (pc := 98) K fl_RX3_25 dX3_arrange_98 (Nat.le_of_ble_eq_true rfl) rfl rfl ?_
        refine v_getR (pc := 101) K fl_RX3_176 dX3_arrange_101 (Nat.le_of_ble_eq_true rfl) rfl rfl ?_
        refine v_iload2 (pc := 104) K dX3_arrange_104 ?_
        obtain ⟨j46, h47, h⟩ := bd h
        refine v_iaload (pc := 105) K dX3_arrange_105 (Nat.le_of_ble_eq_true rfl) rfl h47 ?_
        refine v_iload1 (pc := 106) K dX3_arrange_106 ?_
        obtain ⟨v48, h49, h⟩ := bd h
        refine v_cV2I (pc := 107)  K ca_yX1_isUnder ml_RX3_162 (Nat.le_of_ble_eq_true rfl) rfl rfl (t_X1_isUnder _ K.nt K.ad s38.2 (s38.2.1 20 j46) s28.1 v48 h49) (Nat.le_of_ble_eq_true rfl) (by decide) (by decide) dX3_arrange_107 ?_
        obtain ⟨t50, h52, h⟩ := bd h
        have hJ51 : V (mkX M YC E base 3 (.ok (some (.int r.1))) r.2) t50 118 [some (.ref (E.2.2 0)), some (.int s28.1), some (.int s38.1)] [] := by
          refine v_iinc2 (pc := 118) (w := 1) K dX3_arrange_118 rfl (Nat.le_of_ble_eq_true rfl) (by decide) ?_
          refine v_goto (pc := 121) (tgt := 82) K dX3_arrange_121 (by decide) ?_
          have e := lfc h hk
          exact e
        clear h
        have h := h52
        refine v_if_eq (pc := 110) (tgt := 118) K dX3_arrange_110 (by decide) (fun c53 => ?_) (fun c53 => ?_)
        · have h := it c53 h
          cases h
          exact hJ51
        · have h := ie c53 h
          refine v_aload0 (pc := 113) K dX3_arrange_113 ?_
          refine v_iload2 (pc := 114) K dX3_arrange_114 ?_
          obtain ⟨v54, h55, h⟩ := bd h
          refine v_cV1U (pc := 115)  K ca_yX3_include ml_RX3_122 (Nat.le_of_ble_eq_true rfl) rfl rfl (t_X3_include _ K.nt K.ad s38.2 s38.1 v54 h55) (Nat.le_of_ble_eq_true rfl) (by decide) (by decide) dX3_arrange_115 ?_
          cases h
          exact hJ51
  clear h
  have hL62 := lpv h4 (fun s1 : Int32 × St => V (mkX M YC E base 3 (.ok (some (.int r.1))) r.2) s1.2 2 [some (.ref (E.2.2 0)), some (.int s1.1), none] [])
  refine hL62 (fun s1 o h hk => ?_)
  refine v_iload1 (pc := 2) K dX3_arrange_2 ?_
  refine v_aload0 (pc := 3) K dX3_arrange_3 ?_
  refine v_getR (pc := 4) K fl_RX3_14 dX3_arrange_4 (Nat.le_of_ble_eq_true rfl) rfl rfl ?_
  refine v_getI (pc := 7) K fl_RX3_51 dX3_arrange_7 (Nat.le_of_ble_eq_true rfl) rfl rfl ?_
  refine v_icmp_ge (pc := 10) (tgt := 68) K dX3_arrange_10 (by decide) (fun c8 => ?_) (fun c8 => ?_)
  · have h := it c8 h
    have e := lx h hk
    cases e
    exact v_fg [true, false, true] hJ3
  · have h := ie c8 h
    refine v_aload0 (pc := 13) K dX3_arrange_13 ?_
    refine v_iload1 (pc := 14) K dX3_arrange_14 ?_
    obtain ⟨v9, h10, h⟩ := bd h
    refine v_cV1U (pc := 15)  K ca_yX3_expectAsItIs ml_RX3_252 (Nat.le_of_ble_eq_true rfl) rfl rfl (t_X3_expectAsItIs _ K.nt K.ad s1.2 s1.1 v9 h10) (Nat.le_of_ble_eq_true rfl) (by decide) (by decide) dX3_arrange_15 ?_
    refine v_ic0 (pc := 18) K dX3_arrange_18 ?_
    refine v_istore2 (pc := 19) K dX3_arrange_19 rfl (Nat.le_of_ble_eq_true rfl) ?_
    obtain ⟨r12, h14, h⟩ := bd h
    have hJ13 : V (mkX M YC E base 3 (.ok (some (.int r.1))) r.2) r12 62 [some (.ref (E.2.2 0)), some (.int s1.1), none] [] := by
      refine v_iinc1 (pc := 62) (w := 1) K dX3_arrange_62 rfl (Nat.le_of_ble_eq_true rfl) (by decide) ?_
      refine v_goto (pc := 65) (tgt := 2) K dX3_arrange_65 (by decide) ?_
      have e := lfc h hk
      exact e
    clear h
    have hL27 := lpv h14 (fun s11 : Int32 × St => V (mkX M YC E base 3 (.ok (some (.int r.1))) r.2) s11.2 20 [some (.ref (E.2.2 0)), some (.int s1.1), some (.int s11.1)] [])
    refine hL27 (fun s11 o h hk => ?_)
    refine v_iload2 (pc := 20) K dX3_arrange_20 ?_
    refine v_aload0 (pc := 21) K dX3_arrange_21 ?_
    refine v_getR (pc := 22) K fl_RX3_25 dX3_arrange_22 (Nat.le_of_ble_eq_true rfl) rfl rfl ?_
    refine v_getI (pc := 25) K fl_RX3_173 dX3_arrange_25 (Nat.le_of_ble_eq_true rfl) rfl rfl ?_
    refine v_icmp_ge (pc := 28) (tgt := 62) K dX3_arrange_28 (by decide) (fun c18 => ?_) (fun c18 => ?_)
    · have h := it c18 h
      have e := lx h hk
      cases e
      exact v_fg [true, true, false] hJ13
    · have h := ie c18 h
      refine v_aload0 (pc := 31) K dX3_arrange_31 ?_
      refine v_getR (pc := 32) K fl_RX3_14 dX3_arrange_32 (Nat.le_of_ble_eq_true rfl) rfl rfl ?_
      refine v_getR (pc := 35) K fl_RX3_86 dX3_arrange_35 (Nat.le_of_ble_eq_true rfl) rfl rfl ?_
      refine v_iload1 (pc := 38) K dX3_arrange_38 ?_
      obtain ⟨j19, h20, h⟩ := bd h
      refine v_aal (pc := 39) (b := 4) K dX3_arrange_39 (Nat.le_of_ble_eq_true rfl) rfl rfl h20 ?_
      refine v_iload2 (pc := 40) K dX3_arrange_40 ?_
      refine v_aload0 (pc := 41) K dX3_arrange_41 ?_
      refine v_getR (pc := 42) K fl_RX3_40 dX3_arrange_42 (Nat.le_of_ble_eq_true rfl) rfl rfl ?_
      refine v_aload0 (pc := 45) K dX3_arrange_45 ?_
      refine v_getR (pc := 46) K fl_RX3_25 dX3_arrange_46 (Nat.le_of_ble_eq_true rfl) rfl rfl ?_
      refine v_getR (pc := 49) K fl_RX3_176 dX3_arrange_49 (Nat.le_of_ble_eq_true rfl) rfl rfl ?_
      refine v_iload2 (pc := 52) K dX3_arrange_52 ?_
      obtain ⟨j21, h22, h⟩ := bd h
      refine v_iaload (pc := 53) K dX3_arrange_53 (Nat.le_of_ble_eq_true rfl) rfl h22 ?_
      obtain ⟨j23, h24, h⟩ := bd h
      refine v_laload (pc := 54) K dX3_arrange_54 (Nat.le_of_ble_eq_true rfl) rfl h24 ?_
      obtain ⟨j25, h26, h⟩ := bd h
      refine v_lastore (pc := 55) K dX3_arrange_55 (rowC' (ix_lt h20)) (rowC (ix_lt h20)) h26 ?_
      refine v_iinc2 (pc := 56) (w := 1) K dX3_arrange_56 rfl (Nat.le_of_ble_eq_true rfl) (by decide) ?_
      refine v_goto (pc := 59) (tgt := 20) K dX3_arrange_59 (by decide) ?_
      have e := lfc h hk
      exact e
set_option maxRecDepth 100000 in
def c_X3_reverse (σ : St) : Option (Int32 × St) :=
  ((c_X0_restart σ).bind fun v1 => ((lp 5000 (fun (s3 : Int32 × St) => (if s3.1 < 0 then some (.inr s3.2) else ((c_X0_take s3.2 s3.1 ((-9223372036854775808) : Int64)).bind fun v11 => some (.inl ((s3.1 + (-1)), v11))))) ((v1.1 1 0 - (1 : Int32)), v1)).bind fun (r4 : St) => ((c_X3_arrange r4).bind fun v13 => some (v13.2.1 1 0, v13.2))))
set_option maxHeartbeats 4000000 in
set_option maxRecDepth 100000 in
theorem t_X3_reverse (l : Launch) (hnt : l.stackTraces = false) {E : Ev} {base : Nat} (hE : Adr YC E base) (σ : St) (r : Int32 × St) (h : c_X3_reverse σ = some r) : Ctr l yX3_reverse cX3_reverse 2 (some .int) 4 88 YC E base [.ref (E.2.2 0)] σ (.ok (some (.int r.1))) r.2 := by
  unfold c_X3_reverse at h
  refine ofV 1 (by decide +kernel) rfl hE hnt (Nat.le_of_ble_eq_true rfl) rfl (fun M hN K => ?_)
  refine v_aload0 (pc := 0) K dX3_reverse_0 ?_
  refine v_getR (pc := 1) K fl_RX3_25 dX3_reverse_1 (Nat.le_of_ble_eq_true rfl) rfl rfl ?_
  obtain ⟨v1, h2, h⟩ := bd h
  refine v_cV0U (pc := 4)  K ca_yX0_restart ml_RX3_271 (Nat.le_of_ble_eq_true rfl) rfl rfl (t_X0_restart _ K.nt K.ad σ v1 h2) (Nat.le_of_ble_eq_true rfl) (by decide) (by decide) dX3_reverse_4 ?_
  refine v_aload0 (pc := 7) K dX3_reverse_7 ?_
  refine v_getR (pc := 8) K fl_RX3_14 dX3_reverse_8 (Nat.le_of_ble_eq_true rfl) rfl rfl ?_
  refine v_getI (pc := 11) K fl_RX3_76 dX3_reverse_11 (Nat.le_of_ble_eq_true rfl) rfl rfl ?_
  refine v_ic1 (pc := 14) K dX3_reverse_14 ?_
  refine v_isub (pc := 15) K dX3_reverse_15 ?_
  refine v_istore1 (pc := 16) K dX3_reverse_16 rfl (Nat.le_of_ble_eq_true rfl) ?_
  obtain ⟨r4, h6, h⟩ := bd h
  have hJ5 : V (mkX M YC E base 2 (.ok (some (.int r.1))) r.2) r4 38 [some (.ref (E.2.2 0)), none] [] := by
    refine v_aload0 (pc := 38) K dX3_reverse_38 ?_
    obtain ⟨v13, h14, h⟩ := bd h
    refine v_cV0I (pc := 39)  K ca_yX3_arrange ml_RX3_276 (Nat.le_of_ble_eq_true rfl) rfl rfl (t_X3_arrange _ K.nt K.ad r4 v13 h14) (Nat.le_of_ble_eq_true rfl) (by decide) (by decide) dX3_reverse_39 ?_
    refine v_popI (pc := 42) K dX3_reverse_42 ?_
    refine v_aload0 (pc := 43) K dX3_reverse_43 ?_
    refine v_getR (pc := 44) K fl_RX3_14 dX3_reverse_44 (Nat.le_of_ble_eq_true rfl) rfl rfl ?_
    refine v_getI (pc := 47) K fl_RX3_76 dX3_reverse_47 (Nat.le_of_ble_eq_true rfl) rfl rfl ?_
    cases h
    exact v_iret (pc := 50) K dX3_reverse_50 rfl rfl
  clear h
  have hL15 := lpv h6 (fun s3 : Int32 × St => V (mkX M YC E base 2 (.ok (some (.int r.1))) r.2) s3.2 17 [some (.ref (E.2.2 0)), some (.int s3.1)] [])
  refine hL15 (fun s3 o h hk => ?_)
  refine v_iload1 (pc := 17) K dX3_reverse_17 ?_
  refine v_if_lt (pc := 18) (tgt := 38) K dX3_reverse_18 (by decide) (fun c10 => ?_) (fun c10 => ?_)
  · have h := it c10 h
    have e := lx h hk
    cases e
    exact v_fg [true, false] hJ5
  · have h := ie c10 h
    refine v_aload0 (pc := 21) K dX3_reverse_21 ?_
    refine v_getR (pc := 22) K fl_RX3_25 dX3_reverse_22 (Nat.le_of_ble_eq_true rfl) rfl rfl ?_
    refine v_iload1 (pc := 25) K dX3_reverse_25 ?_
    refine v_ldc2 (pc := 26) K dX3_reverse_26 cl_RX3_90 ?_
    obtain ⟨v11, h12, h⟩ := bd h
    refine v_cV2U (pc := 29)  K ca_yX0_take ml_RX3_279 (Nat.le_of_ble_eq_true rfl) rfl rfl (t_X0_take _ K.nt K.ad s3.2 s3.1 ((-9223372036854775808) : Int64) v11 h12) (Nat.le_of_ble_eq_true rfl) (by decide) (by decide) dX3_reverse_29 ?_
    refine v_iinc1 (pc := 32) (w := (-1)) K dX3_reverse_32 rfl (Nat.le_of_ble_eq_true rfl) (by decide) ?_
    refine v_goto (pc := 35) (tgt := 17) K dX3_reverse_35 (by decide) ?_
    have e := lfc h hk
    exact e
set_option maxRecDepth 100000 in
def c_X3_needArgument (σ : St) (a0 : Int32) : Option (Except String Unit × St) :=
  (if a0 = 0 then some (.error "java/lang/IllegalArgumentException", σ) else some (.ok (), σ))
set_option maxHeartbeats 4000000 in
set_option maxRecDepth 100000 in
theorem t_X3_needArgument (l : Launch) (hnt : l.stackTraces = false) {E : Ev} {base : Nat} (hE : Adr YC E base) (σ : St) (a0 : Int32) (r : Except String Unit) (σ' : St) (h : c_X3_needArgument σ a0 = some (r, σ')) : Ctr l yX3_needArgument cX3_needArgument 1 none 6 100 YC E base [.int a0] σ (rU r) σ' := by
  unfold c_X3_needArgument at h
  refine ofV 0 (by decide +kernel) rfl hE hnt (Nat.le_of_ble_eq_true rfl) rfl (fun M hN K => ?_)
  refine v_iload0 (pc := 0) K dX3_needArgument_0 ?_
  refine v_if_ne (pc := 1) (tgt := 15) K dX3_needArgument_1 (by decide) (fun c1 => ?_) (fun c1 => ?_)
  · have h := ie c1 h
    cases h
    exact v_vret (pc := 15) K dX3_needArgument_15 rfl rfl
  · have h := it c1 h
    cases h
    exact v_throw (pc := 4) (text := "a number that can't be") K hN tw_IllegalArgumentException (by decide +kernel) dX3_needArgument_4 dX3_needArgument_7 dX3_needArgument_8 dX3_needArgument_11 dX3_needArgument_14 (by decide) (by decide) rfl rfl
set_option maxRecDepth 100000 in
def c_X3_needWidth (σ : St) (a0 : Int32) : Option (Except String Unit × St) :=
  ((if a0 < (2 : Int32) then some (0 : Int32) else (if (63 : Int32) < a0 then some (0 : Int32) else some (1 : Int32))).bind fun (t1 : Int32) => (xB (c_X3_needArgument σ t1) fun _ s7 => some (.ok (), s7)))
set_option maxHeartbeats 4000000 in
set_option maxRecDepth 100000 in
theorem t_X3_needWidth (l : Launch) (hnt : l.stackTraces = false) {E : Ev} {base : Nat} (hE : Adr YC E base) (σ : St) (a0 : Int32) (r : Except String Unit) (σ' : St) (h : c_X3_needWidth σ a0 = some (r, σ')) : Ctr l yX3_needWidth cX3_needWidth 1 none 7 120 YC E base [.int a0] σ (rU r) σ' := by
  unfold c_X3_needWidth at h
  refine ofV 0 (by decide +kernel) rfl hE hnt (Nat.le_of_ble_eq_true rfl) rfl (fun M hN K => ?_)
  refine v_iload0 (pc := 0) K dX3_needWidth_0 ?_
  refine v_ic2 (pc := 1) K dX3_needWidth_1 ?_
  obtain ⟨t1, h3, h⟩ := bd h
  have hJ2 : V (mkX M YC E base 1 (rU r) σ') σ 16 [none] [.int t1] := by
    rcases xb h with ⟨v6, s7, h8, h⟩ | ⟨e9, s7, h8, hF⟩
    · refine v_cS1U (pc := 16) K ca_yX3_needArgument ml_RX3_73 (t_X3_needArgument _ K.nt K.ad σ t1 (.ok v6) s7 h8) (Nat.le_of_ble_eq_true rfl) (by decide) (by decide) dX3_needWidth_16 ?_
      cases h
      exact v_vret (pc := 19) K dX3_needWidth_19 rfl rfl
    · cases hF
      exact v_cS1X (pc := 16)  K ca_yX3_needArgument ml_RX3_73 (t_X3_needArgument _ K.nt K.ad σ t1 (.error e9) _ h8) (Nat.le_of_ble_eq_true rfl) (by decide) (by decide) dX3_needWidth_16 hN rfl rfl
  clear h
  have h := h3
  refine v_icmp_lt (pc := 2) (tgt := 15) K dX3_needWidth_2 (by decide) (fun c4 => ?_) (fun c4 => ?_)
  · have h := it c4 h
    refine v_ic0 (pc := 15) K dX3_needWidth_15 ?_
    cases h
    exact (v_fg [false] hJ2)
  · have h := ie c4 h
    refine v_iload0 (pc := 5) K dX3_needWidth_5 ?_
    refine v_bipush (pc := 6) (v := 63) K dX3_needWidth_6 (by decide) ?_
    refine v_icmp_gt (pc := 8) (tgt := 15) K dX3_needWidth_8 (by decide) (fun c5 => ?_) (fun c5 => ?_)
    · have h := it c5 h
      refine v_ic0 (pc := 15) K dX3_needWidth_15 ?_
      cases h
      exact (v_fg [false] hJ2)
    · have h := ie c5 h
      refine v_ic1 (pc := 11) K dX3_needWidth_11 ?_
      refine v_goto (pc := 12) (tgt := 16) K dX3_needWidth_12 (by decide) ?_
      cases h
      exact (v_fg [false] hJ2)
set_option maxRecDepth 100000 in
def c_X3_needState (σ : St) (a0 : Int32) : Option (Except String Unit × St) :=
  (if a0 = 0 then some (.error "java/lang/IllegalStateException", σ) else some (.ok (), σ))
set_option maxHeartbeats 4000000 in
set_option maxRecDepth 100000 in
theorem t_X3_needState (l : Launch) (hnt : l.stackTraces = false) {E : Ev} {base : Nat} (hE : Adr YC E base) (σ : St) (a0 : Int32) (r : Except String Unit) (σ' : St) (h : c_X3_needState σ a0 = some (r, σ')) : Ctr l yX3_needState cX3_needState 1 none 6 100 YC E base [.int a0] σ (rU r) σ' := by
  unfold c_X3_needState at h
  refine ofV 0 (by decide +kernel) rfl hE hnt (Nat.le_of_ble_eq_true rfl) rfl (fun M hN K => ?_)
  refine v_iload0 (pc := 0) K dX3_needState_0 ?_
  refine v_if_ne (pc := 1) (tgt := 15) K dX3_needState_1 (by decide) (fun c1 => ?_) (fun c1 => ?_)
  · have h := ie c1 h
    cases h
    exact v_vret (pc := 15) K dX3_needState_15 rfl rfl
  · have h := it c1 h
    cases h
    exact v_throw (pc := 4) (text := "not in this state") K hN tw_IllegalStateException (by decide +kernel) dX3_needState_4 dX3_needState_7 dX3_needState_8 dX3_needState_11 dX3_needState_14 (by decide) (by decide) rfl rfl
set_option maxRecDepth 100000 in
def c_X1_emptyCells (σ : St) (a0 : Int32) (a1 : Int32) (a2 : Int32) : Option (St) :=
  ((lp 5000 (fun (s1 : Int32 × St) => (if a2 ≤ s1.1 then some (.inr s1.2) else ((ix a0 6).bind fun j9 => ((ix s1.1 192).bind fun j11 => some (.inl ((s1.1 + 1), (sL s1.2 (4 + j9) j11 ((-9223372036854775808) : Int64)))))))) (a1, σ)).bind fun (r2 : St) => some r2)
set_option maxHeartbeats 4000000 in
set_option maxRecDepth 100000 in
theorem t_X1_emptyCells (l : Launch) (hnt : l.stackTraces = false) {E : Ev} {base : Nat} (hE : Adr YC E base) (σ : St) (a0 : Int32) (a1 : Int32) (a2 : Int32) (r : St) (h : c_X1_emptyCells σ a0 a1 a2 = some r) : Ctr l yX1_emptyCells cX1_emptyCells 5 none 0 0 YC E base [.ref (E.2.2 1), .int a0, .int a1, .int a2] σ (.ok none) r := by
  unfold c_X1_emptyCells at h
  refine ofV 1 (by decide +kernel) rfl hE hnt (Nat.le_of_ble_eq_true rfl) rfl (fun M hN K => ?_)
  refine v_iload2 (pc := 0) K dX1_emptyCells_0 ?_
  refine v_istore4 (pc := 1) K dX1_emptyCells_1 rfl (Nat.le_of_ble_eq_true rfl) ?_
  obtain ⟨r2, h4, h⟩ := bd h
  have hJ3 : V (mkX M YC E base 5 (.ok none) r) r2 27 [none, none, none, none, none] [] := by
    cases h
    exact v_vret (pc := 27) K dX1_emptyCells_27 rfl rfl
  clear h
  refine v_fg [true, true, false, true, true] ?_
  have hL13 := lpv h4 (fun s1 : Int32 × St => V (mkX M YC E base 5 (.ok none) r) s1.2 3 [some (.ref (E.2.2 1)), some (.int a0), none, some (.int a2), some (.int s1.1)] [])
  refine hL13 (fun s1 o h hk => ?_)
  refine v_iload4 (pc := 3) K dX1_emptyCells_3 ?_
  refine v_iload3 (pc := 5) K dX1_emptyCells_5 ?_
  refine v_icmp_ge (pc := 6) (tgt := 27) K dX1_emptyCells_6 (by decide) (fun c8 => ?_) (fun c8 => ?_)
  · have h := it c8 h
    have e := lx h hk
    cases e
    exact v_fg [false, false, true, false, false] hJ3
  · have h := ie c8 h
    refine v_aload0 (pc := 9) K dX1_emptyCells_9 ?_
    refine v_getR (pc := 10) K fl_RX1_17 dX1_emptyCells_10 (Nat.le_of_ble_eq_true rfl) rfl rfl ?_
    refine v_iload1 (pc := 13) K dX1_emptyCells_13 ?_
    obtain ⟨j9, h10, h⟩ := bd h
    refine v_aal (pc := 14) (b := 4) K dX1_emptyCells_14 (Nat.le_of_ble_eq_true rfl) rfl rfl h10 ?_
    refine v_iload4 (pc := 15) K dX1_emptyCells_15 ?_
    refine v_ldc2 (pc := 17) K dX1_emptyCells_17 cl_RX1_36 ?_
    obtain ⟨j11, h12, h⟩ := bd h
    refine v_lastore (pc := 20) K dX1_emptyCells_20 (rowC' (ix_lt h10)) (rowC (ix_lt h10)) h12 ?_
    refine v_iinc4 (pc := 21) (w := 1) K dX1_emptyCells_21 rfl (Nat.le_of_ble_eq_true rfl) (by decide) ?_
    refine v_goto (pc := 24) (tgt := 3) K dX1_emptyCells_24 (by decide) ?_
    have e := lfc h hk
    exact e
set_option maxRecDepth 100000 in
def c_X3_column (σ : St) (a0 : Int32) : Option (Except String Int32 × St) :=
  (xB (c_X3_needWidth σ a0) fun _ s2 => ((if (6 : Int32) ≤ s2.1 1 1 then some (0 : Int32) else some (1 : Int32)).bind fun (t5 : Int32) => (xB (c_X3_needState s2 t5) fun _ s10 => ((ix (s10.1 1 1) 6).bind fun j13 => ((c_X1_emptyCells (sI (sI s10 1 1 (s10.1 1 1 + (1 : Int32))) 2 j13 a0) (s10.1 1 1) (0 : Int32) (192 : Int32)).bind fun v15 => some (.ok (s10.1 1 1), v15))))))
set_option maxHeartbeats 4000000 in
set_option maxRecDepth 100000 in
theorem t_X3_column (l : Launch) (hnt : l.stackTraces = false) {E : Ev} {base : Nat} (hE : Adr YC E base) (σ : St) (a0 : Int32) (r : Except String Int32) (σ' : St) (h : c_X3_column σ a0 = some (r, σ')) : Ctr l yX3_column cX3_column 3 (some .int) 8 140 YC E base [.ref (E.2.2 0), .int a0] σ (rI r) σ' := by
  unfold c_X3_column at h
  refine ofV 1 (by decide +kernel) rfl hE hnt (Nat.le_of_ble_eq_true rfl) rfl (fun M hN K => ?_)
  refine v_iload1 (pc := 0) K dX3_column_0 ?_
  rcases xb h with ⟨v1, s2, h3, h⟩ | ⟨e4, s2, h3, hF⟩
  · refine v_cS1U (pc := 1) K ca_yX3_needWidth ml_RX3_47 (t_X3_needWidth _ K.nt K.ad σ a0 (.ok v1) s2 h3) (Nat.le_of_ble_eq_true rfl) (by decide) (by decide) dX3_column_1 ?_
    refine v_aload0 (pc := 4) K dX3_column_4 ?_
    refine v_getR (pc := 5) K fl_RX3_14 dX3_column_5 (Nat.le_of_ble_eq_true rfl) rfl rfl ?_
    refine v_getI (pc := 8) K fl_RX3_51 dX3_column_8 (Nat.le_of_ble_eq_true rfl) rfl rfl ?_
    refine v_bipush (pc := 11) (v := 6) K dX3_column_11 (by decide) ?_
    obtain ⟨t5, h7, h⟩ := bd h
    have hJ6 : V (mkX M YC E base 3 (rI r) σ') s2 21 [some (.ref (E.2.2 0)), some (.int a0), none] [.int t5] := by
      rcases xb h with ⟨v9, s10, h11, h⟩ | ⟨e12, s10, h11, hF⟩
      · refine v_cS1U (pc := 21) K ca_yX3_needState ml_RX3_54 (t_X3_needState _ K.nt K.ad s2 t5 (.ok v9) s10 h11) (Nat.le_of_ble_eq_true rfl) (by decide) (by decide) dX3_column_21 ?_
        refine v_aload0 (pc := 24) K dX3_column_24 ?_
        refine v_getR (pc := 25) K fl_RX3_14 dX3_column_25 (Nat.le_of_ble_eq_true rfl) rfl rfl ?_
        refine v_getI (pc := 28) K fl_RX3_51 dX3_column_28 (Nat.le_of_ble_eq_true rfl) rfl rfl ?_
        refine v_istore2 (pc := 31) K dX3_column_31 rfl (Nat.le_of_ble_eq_true rfl) ?_
        refine v_aload0 (pc := 32) K dX3_column_32 ?_
        refine v_getR (pc := 33) K fl_RX3_14 dX3_column_33 (Nat.le_of_ble_eq_true rfl) rfl rfl ?_
        refine v_iload2 (pc := 36) K dX3_column_36 ?_
        refine v_ic1 (pc := 37) K dX3_column_37 ?_
        refine v_iadd (pc := 38) K dX3_column_38 ?_
        refine v_put (pc := 39) K fw_RX3_51 dX3_column_39 rfl rfl (Nat.le_of_ble_eq_true rfl) rfl rfl ?_
        refine v_aload0 (pc := 42) K dX3_column_42 ?_
        refine v_getR (pc := 43) K fl_RX3_14 dX3_column_43 (Nat.le_of_ble_eq_true rfl) rfl rfl ?_
        refine v_getR (pc := 46) K fl_RX3_58 dX3_column_46 (Nat.le_of_ble_eq_true rfl) rfl rfl ?_
        refine v_iload2 (pc := 49) K dX3_column_49 ?_
        refine v_iload1 (pc := 50) K dX3_column_50 ?_
        obtain ⟨j13, h14, h⟩ := bd h
        refine v_iastore (pc := 51) K dX3_column_51 (Nat.le_of_ble_eq_true rfl) rfl h14 ?_
        refine v_aload0 (pc := 52) K dX3_column_52 ?_
        refine v_getR (pc := 53) K fl_RX3_14 dX3_column_53 (Nat.le_of_ble_eq_true rfl) rfl rfl ?_
        refine v_iload2 (pc := 56) K dX3_column_56 ?_
        refine v_ic0 (pc := 57) K dX3_column_57 ?_
        refine v_sipush (pc := 58) (v := 192) K dX3_column_58 (by decide) ?_
        obtain ⟨v15, h16, h⟩ := bd h
        refine v_cV3U (pc := 61)  K ca_yX1_emptyCells ml_RX3_62 (Nat.le_of_ble_eq_true rfl) rfl rfl (t_X1_emptyCells _ K.nt K.ad (sI (sI s10 1 1 (s10.1 1 1 + (1 : Int32))) 2 j13 a0) (s10.1 1 1) (0 : Int32) (192 : Int32) v15 h16) (Nat.le_of_ble_eq_true rfl) (by decide) (by decide) dX3_column_61 ?_
        refine v_iload2 (pc := 64) K dX3_column_64 ?_
        cases h
        exact v_iret (pc := 65) K dX3_column_65 rfl rfl
      · cases hF
        exact v_cS1X (pc := 21)  K ca_yX3_needState ml_RX3_54 (t_X3_needState _ K.nt K.ad s2 t5 (.error e12) _ h11) (Nat.le_of_ble_eq_true rfl) (by decide) (by decide) dX3_column_21 hN rfl rfl
    clear h
    have h := h7
    refine v_icmp_ge (pc := 13) (tgt := 20) K dX3_column_13 (by decide) (fun c8 => ?_) (fun c8 => ?_)
    · have h := it c8 h
      refine v_ic0 (pc := 20) K dX3_column_20 ?_
      cases h
      exact hJ6
    · have h := ie c8 h
      refine v_ic1 (pc := 16) K dX3_column_16 ?_
      refine v_goto (pc := 17) (tgt := 21) K dX3_column_17 (by decide) ?_
      cases h
      exact hJ6
  · cases hF
    exact v_cS1X (pc := 1)  K ca_yX3_needWidth ml_RX3_47 (t_X3_needWidth _ K.nt K.ad σ a0 (.error e4) _ h3) (Nat.le_of_ble_eq_true rfl) (by decide) (by decide) dX3_column_1 hN rfl rfl
set_option maxRecDepth 100000 in
def c_X3_needColumn (σ : St) (a0 : Int32) : Option (Except String Unit × St) :=
  (if a0 < 0 then some (.error "java/lang/IndexOutOfBoundsException", σ) else (if a0 < σ.1 1 1 then some (.ok (), σ) else some (.error "java/lang/IndexOutOfBoundsException", σ)))
set_option maxHeartbeats 4000000 in
set_option maxRecDepth 100000 in
theorem t_X3_needColumn (l : Launch) (hnt : l.stackTraces = false) {E : Ev} {base : Nat} (hE : Adr YC E base) (σ : St) (a0 : Int32) (r : Except String Unit) (σ' : St) (h : c_X3_needColumn σ a0 = some (r, σ')) : Ctr l yX3_needColumn cX3_needColumn 2 none 6 100 YC E base [.ref (E.2.2 0), .int a0] σ (rU r) σ' := by
  unfold c_X3_needColumn at h
  refine ofV 0 (by decide +kernel) rfl hE hnt (Nat.le_of_ble_eq_true rfl) rfl (fun M hN K => ?_)
  refine v_iload1 (pc := 0) K dX3_needColumn_0 ?_
  refine v_if_lt (pc := 1) (tgt := 15) K dX3_needColumn_1 (by decide) (fun c1 => ?_) (fun c1 => ?_)
  · have h := it c1 h
    cases h
    exact v_throw (pc := 15) (text := "no such column") K hN tw_IndexOutOfBoundsException (by decide +kernel) dX3_needColumn_15 dX3_needColumn_18 dX3_needColumn_19 dX3_needColumn_22 dX3_needColumn_25 (by decide) (by decide) rfl rfl
  · have h := ie c1 h
    refine v_iload1 (pc := 4) K dX3_needColumn_4 ?_
    refine v_aload0 (pc := 5) K dX3_needColumn_5 ?_
    refine v_getR (pc := 6) K fl_RX3_14 dX3_needColumn_6 (Nat.le_of_ble_eq_true rfl) rfl rfl ?_
    refine v_getI (pc := 9) K fl_RX3_51 dX3_needColumn_9 (Nat.le_of_ble_eq_true rfl) rfl rfl ?_
    refine v_icmp_lt (pc := 12) (tgt := 26) K dX3_needColumn_12 (by decide) (fun c2 => ?_) (fun c2 => ?_)
    · have h := it c2 h
      cases h
      exact v_vret (pc := 26) K dX3_needColumn_26 rfl rfl
    · have h := ie c2 h
      cases h
      exact v_throw (pc := 15) (text := "no such column") K hN tw_IndexOutOfBoundsException (by decide +kernel) dX3_needColumn_15 dX3_needColumn_18 dX3_needColumn_19 dX3_needColumn_22 dX3_needColumn_25 (by decide) (by decide) rfl rfl
set_option maxRecDepth 100000 in
def c_X1_exchangeColumns (σ : St) (a0 : Int32) (a1 : Int32) : Option (St) :=
  ((ix a0 6).bind fun j1 => ((ix a1 6).bind fun j3 => ((ix a0 6).bind fun j5 => ((ix a1 6).bind fun j7 => ((lp 5000 (fun (s9 : Int32 × St) => (if s9.2.1 1 0 ≤ s9.1 then some (.inr s9.2) else ((ix a0 6).bind fun j17 => ((ix s9.1 192).bind fun j19 => ((ix a0 6).bind fun j21 => ((ix a1 6).bind fun j23 => ((ix s9.1 192).bind fun j25 => ((ix s9.1 192).bind fun j27 => ((ix a1 6).bind fun j29 => ((ix s9.1 192).bind fun j31 => some (.inl ((s9.1 + 1), (sL (sL s9.2 (4 + j21) j27 (s9.2.2 (4 + j23) j25)) (4 + j29) j31 (s9.2.2 (4 + j17) j19)))))))))))))) ((0 : Int32), (sI (sI σ 2 j5 (σ.1 2 j3)) 2 j7 (σ.1 2 j1)))).bind fun (r10 : St) => some r10)))))
set_option maxHeartbeats 4000000 in
set_option maxRecDepth 100000 in
theorem t_X1_exchangeColumns (l : Launch) (hnt : l.stackTraces = false) {E : Ev} {base : Nat} (hE : Adr YC E base) (σ : St) (a0 : Int32) (a1 : Int32) (r : St) (h : c_X1_exchangeColumns σ a0 a1 = some r) : Ctr l yX1_exchangeColumns cX1_exchangeColumns 7 none 0 0 YC E base [.ref (E.2.2 1), .int a0, .int a1] σ (.ok none) r := by
  unfold c_X1_exchangeColumns at h
  refine ofV 4 (by decide +kernel) rfl hE hnt (Nat.le_of_ble_eq_true rfl) rfl (fun M hN K => ?_)
  refine v_aload0 (pc := 0) K dX1_exchangeColumns_0 ?_
  refine v_getR (pc := 1) K fl_RX1_9 dX1_exchangeColumns_1 (Nat.le_of_ble_eq_true rfl) rfl rfl ?_
  refine v_iload1 (pc := 4) K dX1_exchangeColumns_4 ?_
  obtain ⟨j1, h2, h⟩ := bd h
  refine v_iaload (pc := 5) K dX1_exchangeColumns_5 (Nat.le_of_ble_eq_true rfl) rfl h2 ?_
  refine v_istore3 (pc := 6) K dX1_exchangeColumns_6 rfl (Nat.le_of_ble_eq_true rfl) ?_
  refine v_aload0 (pc := 7) K dX1_exchangeColumns_7 ?_
  refine v_getR (pc := 8) K fl_RX1_9 dX1_exchangeColumns_8 (Nat.le_of_ble_eq_true rfl) rfl rfl ?_
  refine v_iload1 (pc := 11) K dX1_exchangeColumns_11 ?_
  refine v_aload0 (pc := 12) K dX1_exchangeColumns_12 ?_
  refine v_getR (pc := 13) K fl_RX1_9 dX1_exchangeColumns_13 (Nat.le_of_ble_eq_true rfl) rfl rfl ?_
  refine v_iload2 (pc := 16) K dX1_exchangeColumns_16 ?_
  obtain ⟨j3, h4, h⟩ := bd h
  refine v_iaload (pc := 17) K dX1_exchangeColumns_17 (Nat.le_of_ble_eq_true rfl) rfl h4 ?_
  obtain ⟨j5, h6, h⟩ := bd h
  refine v_iastore (pc := 18) K dX1_exchangeColumns_18 (Nat.le_of_ble_eq_true rfl) rfl h6 ?_
  refine v_aload0 (pc := 19) K dX1_exchangeColumns_19 ?_
  refine v_getR (pc := 20) K fl_RX1_9 dX1_exchangeColumns_20 (Nat.le_of_ble_eq_true rfl) rfl rfl ?_
  refine v_iload2 (pc := 23) K dX1_exchangeColumns_23 ?_
  refine v_iload3 (pc := 24) K dX1_exchangeColumns_24 ?_
  obtain ⟨j7, h8, h⟩ := bd h
  refine v_iastore (pc := 25) K dX1_exchangeColumns_25 (Nat.le_of_ble_eq_true rfl) rfl h8 ?_
  refine v_ic0 (pc := 26) K dX1_exchangeColumns_26 ?_
  refine v_istore4 (pc := 27) K dX1_exchangeColumns_27 rfl (Nat.le_of_ble_eq_true rfl) ?_
  obtain ⟨r10, h12, h⟩ := bd h
  have hJ11 : V (mkX M YC E base 7 (.ok none) r) r10 84 [none, none, none, none, none, none, none] [] := by
    cases h
    exact v_vret (pc := 84) K dX1_exchangeColumns_84 rfl rfl
  clear h
  refine v_fg [true, true, true, false, true, true, true] ?_
  have hL33 := lpv h12 (fun s9 : Int32 × St => V (mkX M YC E base 7 (.ok none) r) s9.2 29 [some (.ref (E.2.2 1)), some (.int a0), some (.int a1), none, some (.int s9.1), none, none] [])
  refine hL33 (fun s9 o h hk => ?_)
  refine v_iload4 (pc := 29) K dX1_exchangeColumns_29 ?_
  refine v_aload0 (pc := 31) K dX1_exchangeColumns_31 ?_
  refine v_getI (pc := 32) K fl_RX1_23 dX1_exchangeColumns_32 (Nat.le_of_ble_eq_true rfl) rfl rfl ?_
  refine v_icmp_ge (pc := 35) (tgt := 84) K dX1_exchangeColumns_35 (by decide) (fun c16 => ?_) (fun c16 => ?_)
  · have h := it c16 h
    have e := lx h hk
    cases e
    exact v_fg [false, false, false, true, false, true, true] hJ11
  · have h := ie c16 h
    refine v_aload0 (pc := 38) K dX1_exchangeColumns_38 ?_
    refine v_getR (pc := 39) K fl_RX1_17 dX1_exchangeColumns_39 (Nat.le_of_ble_eq_true rfl) rfl rfl ?_
    refine v_iload1 (pc := 42) K dX1_exchangeColumns_42 ?_
    obtain ⟨j17, h18, h⟩ := bd h
    refine v_aal (pc := 43) (b := 4) K dX1_exchangeColumns_43 (Nat.le_of_ble_eq_true rfl) rfl rfl h18 ?_
    refine v_iload4 (pc := 44) K dX1_exchangeColumns_44 ?_
    obtain ⟨j19, h20, h⟩ := bd h
    refine v_laload (pc := 46) K dX1_exchangeColumns_46 (rowC' (ix_lt h18)) (rowC (ix_lt h18)) h20 ?_
    refine v_lstore5 (pc := 47) K dX1_exchangeColumns_47 rfl (Nat.le_of_ble_eq_true rfl) ?_
    refine v_aload0 (pc := 49) K dX1_exchangeColumns_49 ?_
    refine v_getR (pc := 50) K fl_RX1_17 dX1_exchangeColumns_50 (Nat.le_of_ble_eq_true rfl) rfl rfl ?_
    refine v_iload1 (pc := 53) K dX1_exchangeColumns_53 ?_
    obtain ⟨j21, h22, h⟩ := bd h
    refine v_aal (pc := 54) (b := 4) K dX1_exchangeColumns_54 (Nat.le_of_ble_eq_true rfl) rfl rfl h22 ?_
    refine v_iload4 (pc := 55) K dX1_exchangeColumns_55 ?_
    refine v_aload0 (pc := 57) K dX1_exchangeColumns_57 ?_
    refine v_getR (pc := 58) K fl_RX1_17 dX1_exchangeColumns_58 (Nat.le_of_ble_eq_true rfl) rfl rfl ?_
    refine v_iload2 (pc := 61) K dX1_exchangeColumns_61 ?_
    obtain ⟨j23, h24, h⟩ := bd h
    refine v_aal (pc := 62) (b := 4) K dX1_exchangeColumns_62 (Nat.le_of_ble_eq_true rfl) rfl rfl h24 ?_
    refine v_iload4 (pc := 63) K dX1_exchangeColumns_63 ?_
    obtain ⟨j25, h26, h⟩ := bd h
    refine v_laload (pc := 65) K dX1_exchangeColumns_65 (rowC' (ix_lt h24)) (rowC (ix_lt h24)) h26 ?_
    obtain ⟨j27, h28, h⟩ := bd h
    refine v_lastore (pc := 66) K dX1_exchangeColumns_66 (rowC' (ix_lt h22)) (rowC (ix_lt h22)) h28 ?_
    refine v_aload0 (pc := 67) K dX1_exchangeColumns_67 ?_
    refine v_getR (pc := 68) K fl_RX1_17 dX1_exchangeColumns_68 (Nat.le_of_ble_eq_true rfl) rfl rfl ?_
    refine v_iload2 (pc := 71) K dX1_exchangeColumns_71 ?_
    obtain ⟨j29, h30, h⟩ := bd h
    refine v_aal (pc := 72) (b := 4) K dX1_exchangeColumns_72 (Nat.le_of_ble_eq_true rfl) rfl rfl h30 ?_
    refine v_iload4 (pc := 73) K dX1_exchangeColumns_73 ?_
    refine v_lload5 (pc := 75) K dX1_exchangeColumns_75 ?_
    obtain ⟨j31, h32, h⟩ := bd h
    refine v_lastore (pc := 77) K dX1_exchangeColumns_77 (rowC' (ix_lt h30)) (rowC (ix_lt h30)) h32 ?_
    refine v_iinc4 (pc := 78) (w := 1) K dX1_exchangeColumns_78 rfl (Nat.le_of_ble_eq_true rfl) (by decide) ?_
    refine v_goto (pc := 81) (tgt := 29) K dX1_exchangeColumns_81 (by decide) ?_
    have e := lfc h hk
    exact v_fg [true, true, true, true, true, false, true] e
set_option maxRecDepth 100000 in
def c_X3_drop (σ : St) (a0 : Int32) : Option (Except String Int32 × St) :=
  (xB (c_X3_needColumn σ a0) fun _ s2 => ((lp 5000 (fun (s5 : Int32 × St) => (if s5.2.1 1 1 ≤ (s5.1 + (1 : Int32)) then some (.inr s5.2) else ((c_X1_exchangeColumns s5.2 s5.1 (s5.1 + (1 : Int32))).bind fun v13 => some (.inl ((s5.1 + 1), v13))))) (a0, s2)).bind fun (r6 : St) => some (.ok ((sI r6 1 1 (r6.1 1 1 - (1 : Int32))).1 1 1), (sI r6 1 1 (r6.1 1 1 - (1 : Int32))))))
set_option maxHeartbeats 4000000 in
set_option maxRecDepth 100000 in
theorem t_X3_drop (l : Launch) (hnt : l.stackTraces = false) {E : Ev} {base : Nat} (hE : Adr YC E base) (σ : St) (a0 : Int32) (r : Except String Int32) (σ' : St) (h : c_X3_drop σ a0 = some (r, σ')) : Ctr l yX3_drop cX3_drop 3 (some .int) 7 121 YC E base [.ref (E.2.2 0), .int a0] σ (rI r) σ' := by
  unfold c_X3_drop at h
  refine ofV 1 (by decide +kernel) rfl hE hnt (Nat.le_of_ble_eq_true rfl) rfl (fun M hN K => ?_)
  refine v_aload0 (pc := 0) K dX3_drop_0 ?_
  refine v_iload1 (pc := 1) K dX3_drop_1 ?_
  rcases xb h with ⟨v1, s2, h3, h⟩ | ⟨e4, s2, h3, hF⟩
  · refine v_cV1U (pc := 2) K ca_yX3_needColumn ml_RX3_66 (Nat.le_of_ble_eq_true rfl) rfl rfl (t_X3_needColumn _ K.nt K.ad σ a0 (.ok v1) s2 h3) (Nat.le_of_ble_eq_true rfl) (by decide) (by decide) dX3_drop_2 ?_
    refine v_iload1 (pc := 5) K dX3_drop_5 ?_
    refine v_istore2 (pc := 6) K dX3_drop_6 rfl (Nat.le_of_ble_eq_true rfl) ?_
    obtain ⟨r6, h8, h⟩ := bd h
    have hJ7 : V (mkX M YC E base 3 (rI r) σ') r6 37 [some (.ref (E.2.2 0)), none, none] [] := by
      refine v_aload0 (pc := 37) K dX3_drop_37 ?_
      refine v_getR (pc := 38) K fl_RX3_14 dX3_drop_38 (Nat.le_of_ble_eq_true rfl) rfl rfl ?_
      refine v_dupR (pc := 41) K dX3_drop_41 ?_
      refine v_getI (pc := 42) K fl_RX3_51 dX3_drop_42 (Nat.le_of_ble_eq_true rfl) rfl rfl ?_
      refine v_ic1 (pc := 45) K dX3_drop_45 ?_
      refine v_isub (pc := 46) K dX3_drop_46 ?_
      refine v_put (pc := 47) K fw_RX3_51 dX3_drop_47 rfl rfl (Nat.le_of_ble_eq_true rfl) rfl rfl ?_
      refine v_aload0 (pc := 50) K dX3_drop_50 ?_
      refine v_getR (pc := 51) K fl_RX3_14 dX3_drop_51 (Nat.le_of_ble_eq_true rfl) rfl rfl ?_
      refine v_getI (pc := 54) K fl_RX3_51 dX3_drop_54 (Nat.le_of_ble_eq_true rfl) rfl rfl ?_
      cases h
      exact v_iret (pc := 57) K dX3_drop_57 rfl rfl
    clear h
    refine v_fg [true, false, true] ?_
    have hL15 := lpv h8 (fun s5 : Int32 × St => V (mkX M YC E base 3 (rI r) σ') s5.2 7 [some (.ref (E.2.2 0)), none, some (.int s5.1)] [])
    refine hL15 (fun s5 o h hk => ?_)
    refine v_iload2 (pc := 7) K dX3_drop_7 ?_
    refine v_ic1 (pc := 8) K dX3_drop_8 ?_
    refine v_iadd (pc := 9) K dX3_drop_9 ?_
    refine v_aload0 (pc := 10) K dX3_drop_10 ?_
    refine v_getR (pc := 11) K fl_RX3_14 dX3_drop_11 (Nat.le_of_ble_eq_true rfl) rfl rfl ?_
    refine v_getI (pc := 14) K fl_RX3_51 dX3_drop_14 (Nat.le_of_ble_eq_true rfl) rfl rfl ?_
    refine v_icmp_ge (pc := 17) (tgt := 37) K dX3_drop_17 (by decide) (fun c12 => ?_) (fun c12 => ?_)
    · have h := it c12 h
      have e := lx h hk
      cases e
      exact v_fg [true, true, false] hJ7
    · have h := ie c12 h
      refine v_aload0 (pc := 20) K dX3_drop_20 ?_
      refine v_getR (pc := 21) K fl_RX3_14 dX3_drop_21 (Nat.le_of_ble_eq_true rfl) rfl rfl ?_
      refine v_iload2 (pc := 24) K dX3_drop_24 ?_
      refine v_iload2 (pc := 25) K dX3_drop_25 ?_
      refine v_ic1 (pc := 26) K dX3_drop_26 ?_
      refine v_iadd (pc := 27) K dX3_drop_27 ?_
      obtain ⟨v13, h14, h⟩ := bd h
      refine v_cV2U (pc := 28)  K ca_yX1_exchangeColumns ml_RX3_69 (Nat.le_of_ble_eq_true rfl) rfl rfl (t_X1_exchangeColumns _ K.nt K.ad s5.2 s5.1 (s5.1 + (1 : Int32)) v13 h14) (Nat.le_of_ble_eq_true rfl) (by decide) (by decide) dX3_drop_28 ?_
      refine v_iinc2 (pc := 31) (w := 1) K dX3_drop_31 rfl (Nat.le_of_ble_eq_true rfl) (by decide) ?_
      refine v_goto (pc := 34) (tgt := 7) K dX3_drop_34 (by decide) ?_
      have e := lfc h hk
      exact e
  · cases hF
    exact v_cV1X (pc := 2)  K ca_yX3_needColumn ml_RX3_66 (Nat.le_of_ble_eq_true rfl) rfl rfl (t_X3_needColumn _ K.nt K.ad σ a0 (.error e4) _ h3) (Nat.le_of_ble_eq_true rfl) (by decide) (by decide) dX3_drop_2 hN rfl rfl
set_option maxRecDepth 100000 in
def c_X3_rows (σ : St) (a0 : Int32) : Option (Except String Int32 × St) :=
  ((if a0 < (1 : Int32) then some (0 : Int32) else (if (64 : Int32) < a0 then some (0 : Int32) else some (1 : Int32))).bind fun (t1 : Int32) => (xB (c_X3_needArgument σ t1) fun _ s7 => ((if (192 : Int32) < (s7.1 1 0 + a0) then some (0 : Int32) else some (1 : Int32)).bind fun (t10 : Int32) => (xB (c_X3_needState s7 t10) fun _ s15 => ((lp 5000 (fun (s18 : Int32 × St) => (if s18.2.1 1 1 ≤ s18.1 then some (.inr s18.2) else ((c_X1_emptyCells s18.2 s18.1 (s18.2.1 1 0) (s15.1 1 0 + a0)).bind fun v26 => some (.inl ((s18.1 + 1), v26))))) ((0 : Int32), s15)).bind fun (r19 : St) => some (.ok (s15.1 1 0 + a0), (sI r19 1 0 (s15.1 1 0 + a0))))))))
set_option maxHeartbeats 4000000 in
set_option maxRecDepth 100000 in
theorem t_X3_rows (l : Launch) (hnt : l.stackTraces = false) {E : Ev} {base : Nat} (hE : Adr YC E base) (σ : St) (a0 : Int32) (r : Except String Int32) (σ' : St) (h : c_X3_rows σ a0 = some (r, σ')) : Ctr l yX3_rows cX3_rows 4 (some .int) 7 120 YC E base [.ref (E.2.2 0), .int a0] σ (rI r) σ' := by
  unfold c_X3_rows at h
  refine ofV 2 (by decide +kernel) rfl hE hnt (Nat.le_of_ble_eq_true rfl) rfl (fun M hN K => ?_)
  refine v_iload1 (pc := 0) K dX3_rows_0 ?_
  refine v_ic1 (pc := 1) K dX3_rows_1 ?_
  obtain ⟨t1, h3, h⟩ := bd h
  have hJ2 : V (mkX M YC E base 4 (rI r) σ') σ 16 [some (.ref (E.2.2 0)), some (.int a0), none, none] [.int t1] := by
    rcases xb h with ⟨v6, s7, h8, h⟩ | ⟨e9, s7, h8, hF⟩
    · refine v_cS1U (pc := 16) K ca_yX3_needArgument ml_RX3_73 (t_X3_needArgument _ K.nt K.ad σ t1 (.ok v6) s7 h8) (Nat.le_of_ble_eq_true rfl) (by decide) (by decide) dX3_rows_16 ?_
      refine v_aload0 (pc := 19) K dX3_rows_19 ?_
      refine v_getR (pc := 20) K fl_RX3_14 dX3_rows_20 (Nat.le_of_ble_eq_true rfl) rfl rfl ?_
      refine v_getI (pc := 23) K fl_RX3_76 dX3_rows_23 (Nat.le_of_ble_eq_true rfl) rfl rfl ?_
      refine v_iload1 (pc := 26) K dX3_rows_26 ?_
      refine v_iadd (pc := 27) K dX3_rows_27 ?_
      refine v_sipush (pc := 28) (v := 192) K dX3_rows_28 (by decide) ?_
      obtain ⟨t10, h12, h⟩ := bd h
      have hJ11 : V (mkX M YC E base 4 (rI r) σ') s7 39 [some (.ref (E.2.2 0)), some (.int a0), none, none] [.int t10] := by
        rcases xb h with ⟨v14, s15, h16, h⟩ | ⟨e17, s15, h16, hF⟩
        · refine v_cS1U (pc := 39) K ca_yX3_needState ml_RX3_54 (t_X3_needState _ K.nt K.ad s7 t10 (.ok v14) s15 h16) (Nat.le_of_ble_eq_true rfl) (by decide) (by decide) dX3_rows_39 ?_
          refine v_aload0 (pc := 42) K dX3_rows_42 ?_
          refine v_getR (pc := 43) K fl_RX3_14 dX3_rows_43 (Nat.le_of_ble_eq_true rfl) rfl rfl ?_
          refine v_getI (pc := 46) K fl_RX3_76 dX3_rows_46 (Nat.le_of_ble_eq_true rfl) rfl rfl ?_
          refine v_iload1 (pc := 49) K dX3_rows_49 ?_
          refine v_iadd (pc := 50) K dX3_rows_50 ?_
          refine v_istore2 (pc := 51) K dX3_rows_51 rfl (Nat.le_of_ble_eq_true rfl) ?_
          refine v_ic0 (pc := 52) K dX3_rows_52 ?_
          refine v_istore3 (pc := 53) K dX3_rows_53 rfl (Nat.le_of_ble_eq_true rfl) ?_
          obtain ⟨r19, h21, h⟩ := bd h
          have hJ20 : V (mkX M YC E base 4 (rI r) σ') r19 87 [some (.ref (E.2.2 0)), none, some (.int (s15.1 1 0 + a0)), none] [] := by
            refine v_aload0 (pc := 87) K dX3_rows_87 ?_
            refine v_getR (pc := 88) K fl_RX3_14 dX3_rows_88 (Nat.le_of_ble_eq_true rfl) rfl rfl ?_
            refine v_iload2 (pc := 91) K dX3_rows_91 ?_
            refine v_put (pc := 92) K fw_RX3_76 dX3_rows_92 rfl rfl (Nat.le_of_ble_eq_true rfl) rfl rfl ?_
            refine v_iload2 (pc := 95) K dX3_rows_95 ?_
            cases h
            exact v_iret (pc := 96) K dX3_rows_96 rfl rfl
          clear h
          refine v_fg [true, false, true, true] ?_
          have hL28 := lpv h21 (fun s18 : Int32 × St => V (mkX M YC E base 4 (rI r) σ') s18.2 54 [some (.ref (E.2.2 0)), none, some (.int (s15.1 1 0 + a0)), some (.int s18.1)] [])
          refine hL28 (fun s18 o h hk => ?_)
          refine v_iload3 (pc := 54) K dX3_rows_54 ?_
          refine v_aload0 (pc := 55) K dX3_rows_55 ?_
          refine v_getR (pc := 56) K fl_RX3_14 dX3_rows_56 (Nat.le_of_ble_eq_true rfl) rfl rfl ?_
          refine v_getI (pc := 59) K fl_RX3_51 dX3_rows_59 (Nat.le_of_ble_eq_true rfl) rfl rfl ?_
          refine v_icmp_ge (pc := 62) (tgt := 87) K dX3_rows_62 (by decide) (fun c25 => ?_) (fun c25 => ?_)
          · have h := it c25 h
            have e := lx h hk
            cases e
            exact v_fg [true, true, true, false] hJ20
          · have h := ie c25 h
            refine v_aload0 (pc := 65) K dX3_rows_65 ?_
            refine v_getR (pc := 66) K fl_RX3_14 dX3_rows_66 (Nat.le_of_ble_eq_true rfl) rfl rfl ?_
            refine v_iload3 (pc := 69) K dX3_rows_69 ?_
            refine v_aload0 (pc := 70) K dX3_rows_70 ?_
            refine v_getR (pc := 71) K fl_RX3_14 dX3_rows_71 (Nat.le_of_ble_eq_true rfl) rfl rfl ?_
            refine v_getI (pc := 74) K fl_RX3_76 dX3_rows_74 (Nat.le_of_ble_eq_true rfl) rfl rfl ?_
            refine v_iload2 (pc := 77) K dX3_rows_77 ?_
            obtain ⟨v26, h27, h⟩ := bd h
            refine v_cV3U (pc := 78)  K ca_yX1_emptyCells ml_RX3_62 (Nat.le_of_ble_eq_true rfl) rfl rfl (t_X1_emptyCells _ K.nt K.ad s18.2 s18.1 (s18.2.1 1 0) (s15.1 1 0 + a0) v26 h27) (Nat.le_of_ble_eq_true rfl) (by decide) (by decide) dX3_rows_78 ?_
            refine v_iinc3 (pc := 81) (w := 1) K dX3_rows_81 rfl (Nat.le_of_ble_eq_true rfl) (by decide) ?_
            refine v_goto (pc := 84) (tgt := 54) K dX3_rows_84 (by decide) ?_
            have e := lfc h hk
            exact e
        · cases hF
          exact v_cS1X (pc := 39)  K ca_yX3_needState ml_RX3_54 (t_X3_needState _ K.nt K.ad s7 t10 (.error e17) _ h16) (Nat.le_of_ble_eq_true rfl) (by decide) (by decide) dX3_rows_39 hN rfl rfl
      clear h
      have h := h12
      refine v_icmp_gt (pc := 31) (tgt := 38) K dX3_rows_31 (by decide) (fun c13 => ?_) (fun c13 => ?_)
      · have h := it c13 h
        refine v_ic0 (pc := 38) K dX3_rows_38 ?_
        cases h
        exact hJ11
      · have h := ie c13 h
        refine v_ic1 (pc := 34) K dX3_rows_34 ?_
        refine v_goto (pc := 35) (tgt := 39) K dX3_rows_35 (by decide) ?_
        cases h
        exact hJ11
    · cases hF
      exact v_cS1X (pc := 16)  K ca_yX3_needArgument ml_RX3_73 (t_X3_needArgument _ K.nt K.ad σ t1 (.error e9) _ h8) (Nat.le_of_ble_eq_true rfl) (by decide) (by decide) dX3_rows_16 hN rfl rfl
  clear h
  have h := h3
  refine v_icmp_lt (pc := 2) (tgt := 15) K dX3_rows_2 (by decide) (fun c4 => ?_) (fun c4 => ?_)
  · have h := it c4 h
    refine v_ic0 (pc := 15) K dX3_rows_15 ?_
    cases h
    exact hJ2
  · have h := ie c4 h
    refine v_iload1 (pc := 5) K dX3_rows_5 ?_
    refine v_bipush (pc := 6) (v := 64) K dX3_rows_6 (by decide) ?_
    refine v_icmp_gt (pc := 8) (tgt := 15) K dX3_rows_8 (by decide) (fun c5 => ?_) (fun c5 => ?_)
    · have h := it c5 h
      refine v_ic0 (pc := 15) K dX3_rows_15 ?_
      cases h
      exact hJ2
    · have h := ie c5 h
      refine v_ic1 (pc := 11) K dX3_rows_11 ?_
      refine v_goto (pc := 12) (tgt := 16) K dX3_rows_12 (by decide) ?_
      cases h
      exact hJ2
set_option maxRecDepth 100000 in
def c_X3_needRow (σ : St) (a0 : Int32) : Option (Except String Unit × St) :=
  (if a0 < 0 then some (.error "java/lang/IndexOutOfBoundsException", σ) else (if a0 < σ.1 1 0 then some (.ok (), σ) else some (.error "java/lang/IndexOutOfBoundsException", σ)))
set_option maxHeartbeats 4000000 in
set_option maxRecDepth 100000 in
theorem t_X3_needRow (l : Launch) (hnt : l.stackTraces = false) {E : Ev} {base : Nat} (hE : Adr YC E base) (σ : St) (a0 : Int32) (r : Except String Unit) (σ' : St) (h : c_X3_needRow σ a0 = some (r, σ')) : Ctr l yX3_needRow cX3_needRow 2 none 6 100 YC E base [.ref (E.2.2 0), .int a0] σ (rU r) σ' := by
  unfold c_X3_needRow at h
  refine ofV 0 (by decide +kernel) rfl hE hnt (Nat.le_of_ble_eq_true rfl) rfl (fun M hN K => ?_)
  refine v_iload1 (pc := 0) K dX3_needRow_0 ?_
  refine v_if_lt (pc := 1) (tgt := 15) K dX3_needRow_1 (by decide) (fun c1 => ?_) (fun c1 => ?_)
  · have h := it c1 h
    cases h
    exact v_throw (pc := 15) (text := "no such row") K hN tw_IndexOutOfBoundsException (by decide +kernel) dX3_needRow_15 dX3_needRow_18 dX3_needRow_19 dX3_needRow_22 dX3_needRow_25 (by decide) (by decide) rfl rfl
  · have h := ie c1 h
    refine v_iload1 (pc := 4) K dX3_needRow_4 ?_
    refine v_aload0 (pc := 5) K dX3_needRow_5 ?_
    refine v_getR (pc := 6) K fl_RX3_14 dX3_needRow_6 (Nat.le_of_ble_eq_true rfl) rfl rfl ?_
    refine v_getI (pc := 9) K fl_RX3_76 dX3_needRow_9 (Nat.le_of_ble_eq_true rfl) rfl rfl ?_
    refine v_icmp_lt (pc := 12) (tgt := 26) K dX3_needRow_12 (by decide) (fun c2 => ?_) (fun c2 => ?_)
    · have h := it c2 h
      cases h
      exact v_vret (pc := 26) K dX3_needRow_26 rfl rfl
    · have h := ie c2 h
      cases h
      exact v_throw (pc := 15) (text := "no such row") K hN tw_IndexOutOfBoundsException (by decide +kernel) dX3_needRow_15 dX3_needRow_18 dX3_needRow_19 dX3_needRow_22 dX3_needRow_25 (by decide) (by decide) rfl rfl
set_option maxRecDepth 100000 in
def c_X3_fits (σ : St) (a0 : Int32) (a1 : Int64) : Option (Int32) :=
  ((if (a1 >>> (((a0 - (1 : Int32))).toInt64 &&& 63)) = (0 : Int64) then some (1 : Int32) else (if (a1 >>> (((a0 - (1 : Int32))).toInt64 &&& 63)) = ((-1) : Int64) then some (1 : Int32) else some (0 : Int32))).bind fun (t1 : Int32) => some (nz t1))
set_option maxHeartbeats 4000000 in
set_option maxRecDepth 100000 in
theorem t_X3_fits (l : Launch) (hnt : l.stackTraces = false) {E : Ev} {base : Nat} (hE : Adr YC E base) (σ : St) (a0 : Int32) (a1 : Int64) (r : Int32) (h : c_X3_fits σ a0 a1 = some r) : Ctr l yX3_fits cX3_fits 5 (some .boolean) 0 0 YC E base [.int a0, .long a1] σ (.ok (some (.int r))) σ := by
  unfold c_X3_fits at h
  refine ofV 2 (by decide +kernel) rfl hE hnt (Nat.le_of_ble_eq_true rfl) rfl (fun M hN K => ?_)
  refine v_lload1 (pc := 0) K dX3_fits_0 ?_
  refine v_iload0 (pc := 1) K dX3_fits_1 ?_
  refine v_ic1 (pc := 2) K dX3_fits_2 ?_
  refine v_isub (pc := 3) K dX3_fits_3 ?_
  refine v_lshr (pc := 4) K dX3_fits_4 ?_
  refine v_lstore3 (pc := 5) K dX3_fits_5 rfl (Nat.le_of_ble_eq_true rfl) ?_
  refine v_lload3 (pc := 6) K dX3_fits_6 ?_
  refine v_lc0 (pc := 7) K dX3_fits_7 ?_
  obtain ⟨t1, h3, h⟩ := bd h
  have hJ2 : V (mkX M YC E base 5 (.ok (some (.int r))) σ) σ 25 [none, none, none, none, none] [.int t1] := by
    cases h
    exact v_zret (pc := 25) K dX3_fits_25 rfl rfl
  clear h
  have h := h3
  refine v_lc_eq (pc := 8) (tgt := 20) K dX3_fits_8 dX3_fits_9 (by decide) (fun c4 => ?_) (fun c4 => ?_)
  · have h := it c4 h
    refine v_ic1 (pc := 20) K dX3_fits_20 ?_
    refine v_goto (pc := 21) (tgt := 25) K dX3_fits_21 (by decide) ?_
    cases h
    exact (v_fg [false, false, true, false, true] hJ2)
  · have h := ie c4 h
    refine v_lload3 (pc := 12) K dX3_fits_12 ?_
    refine v_ldc2 (pc := 13) K dX3_fits_13 cl_RX3_148 ?_
    refine v_lc_ne (pc := 16) (tgt := 24) K dX3_fits_16 dX3_fits_17 (by decide) (fun c5 => ?_) (fun c5 => ?_)
    · have h := ie c5 h
      refine v_ic0 (pc := 24) K dX3_fits_24 ?_
      cases h
      exact (v_fg [false, false, true, false, true] hJ2)
    · have h := it c5 h
      refine v_ic1 (pc := 20) K dX3_fits_20 ?_
      refine v_goto (pc := 21) (tgt := 25) K dX3_fits_21 (by decide) ?_
      cases h
      exact (v_fg [false, false, true, false, true] hJ2)
set_option maxRecDepth 100000 in
def c_X3_needAct (σ : St) (a0 : Int32) : Option (Except String Unit × St) :=
  (if a0 = 0 then some (.error "java/lang/ArithmeticException", (sI σ 0 6 (σ.1 0 6 + (1 : Int32)))) else some (.ok (), σ))
set_option maxHeartbeats 4000000 in
set_option maxRecDepth 100000 in
theorem t_X3_needAct (l : Launch) (hnt : l.stackTraces = false) {E : Ev} {base : Nat} (hE : Adr YC E base) (σ : St) (a0 : Int32) (r : Except String Unit) (σ' : St) (h : c_X3_needAct σ a0 = some (r, σ')) : Ctr l yX3_needAct cX3_needAct 2 none 6 100 YC E base [.ref (E.2.2 0), .int a0] σ (rU r) σ' := by
  unfold c_X3_needAct at h
  refine ofV 0 (by decide +kernel) rfl hE hnt (Nat.le_of_ble_eq_true rfl) rfl (fun M hN K => ?_)
  refine v_iload1 (pc := 0) K dX3_needAct_0 ?_
  refine v_if_ne (pc := 1) (tgt := 25) K dX3_needAct_1 (by decide) (fun c1 => ?_) (fun c1 => ?_)
  · have h := ie c1 h
    cases h
    exact v_vret (pc := 25) K dX3_needAct_25 rfl rfl
  · have h := it c1 h
    refine v_aload0 (pc := 4) K dX3_needAct_4 ?_
    refine v_dupR (pc := 5) K dX3_needAct_5 ?_
    refine v_getI (pc := 6) K fl_RX3_43 dX3_needAct_6 (Nat.le_of_ble_eq_true rfl) rfl rfl ?_
    refine v_ic1 (pc := 9) K dX3_needAct_9 ?_
    refine v_iadd (pc := 10) K dX3_needAct_10 ?_
    refine v_put (pc := 11) K fw_RX3_43 dX3_needAct_11 rfl rfl (Nat.le_of_ble_eq_true rfl) rfl rfl ?_
    cases h
    exact v_throw (pc := 14) (text := "a number does not fit its column") K hN tw_ArithmeticException (by decide +kernel) dX3_needAct_14 dX3_needAct_17 dX3_needAct_18 dX3_needAct_21 dX3_needAct_24 (by decide) (by decide) rfl rfl
set_option maxRecDepth 100000 in
def c_X3_needFit (σ : St) (a0 : Int32) (a1 : Int64) : Option (Except String Unit × St) :=
  ((ix a0 6).bind fun j1 => ((c_X3_fits σ (σ.1 2 j1) a1).bind fun v3 => (xB (c_X3_needAct σ v3) fun _ s6 => some (.ok (), s6))))
set_option maxHeartbeats 4000000 in
set_option maxRecDepth 100000 in
theorem t_X3_needFit (l : Launch) (hnt : l.stackTraces = false) {E : Ev} {base : Nat} (hE : Adr YC E base) (σ : St) (a0 : Int32) (a1 : Int64) (r : Except String Unit) (σ' : St) (h : c_X3_needFit σ a0 a1 = some (r, σ')) : Ctr l yX3_needFit cX3_needFit 4 none 7 121 YC E base [.ref (E.2.2 0), .int a0, .long a1] σ (rU r) σ' := by
  unfold c_X3_needFit at h
  refine ofV 0 (by decide +kernel) rfl hE hnt (Nat.le_of_ble_eq_true rfl) rfl (fun M hN K => ?_)
  refine v_aload0 (pc := 0) K dX3_needFit_0 ?_
  refine v_aload0 (pc := 1) K dX3_needFit_1 ?_
  refine v_getR (pc := 2) K fl_RX3_14 dX3_needFit_2 (Nat.le_of_ble_eq_true rfl) rfl rfl ?_
  refine v_getR (pc := 5) K fl_RX3_58 dX3_needFit_5 (Nat.le_of_ble_eq_true rfl) rfl rfl ?_
  refine v_iload1 (pc := 8) K dX3_needFit_8 ?_
  obtain ⟨j1, h2, h⟩ := bd h
  refine v_iaload (pc := 9) K dX3_needFit_9 (Nat.le_of_ble_eq_true rfl) rfl h2 ?_
  refine v_lload2 (pc := 10) K dX3_needFit_10 ?_
  obtain ⟨v3, h4, h⟩ := bd h
  refine v_cS2I (pc := 11)  K ca_yX3_fits ml_RX3_323 (t_X3_fits _ K.nt K.ad σ (σ.1 2 j1) a1 v3 h4) (Nat.le_of_ble_eq_true rfl) (by decide) (by decide) dX3_needFit_11 ?_
  rcases xb h with ⟨v5, s6, h7, h⟩ | ⟨e8, s6, h7, hF⟩
  · refine v_cV1U (pc := 14) K ca_yX3_needAct ml_RX3_268 (Nat.le_of_ble_eq_true rfl) rfl rfl (t_X3_needAct _ K.nt K.ad σ v3 (.ok v5) s6 h7) (Nat.le_of_ble_eq_true rfl) (by decide) (by decide) dX3_needFit_14 ?_
    cases h
    exact v_vret (pc := 17) K dX3_needFit_17 rfl rfl
  · cases hF
    exact v_cV1X (pc := 14)  K ca_yX3_needAct ml_RX3_268 (Nat.le_of_ble_eq_true rfl) rfl rfl (t_X3_needAct _ K.nt K.ad σ v3 (.error e8) _ h7) (Nat.le_of_ble_eq_true rfl) (by decide) (by decide) dX3_needFit_14 hN rfl rfl
set_option maxRecDepth 100000 in
def c_X3_set (σ : St) (a0 : Int32) (a1 : Int32) (a2 : Int64) : Option (Except String Int32 × St) :=
  (xB (c_X3_needColumn σ a0) fun _ s2 => (xB (c_X3_needRow s2 a1) fun _ s6 => (xB (c_X3_needFit s6 a0 a2) fun _ s10 => ((ix a0 6).bind fun j13 => ((ix a1 192).bind fun j15 => ((if s10.2 (4 + j13) j15 = ((-9223372036854775808) : Int64) then some (1 : Int32) else some (0 : Int32)).bind fun (t17 : Int32) => ((ix a0 6).bind fun j21 => ((ix a1 192).bind fun j23 => some (.ok t17, (sL s10 (4 + j21) j23 a2))))))))))
set_option maxHeartbeats 4000000 in
set_option maxRecDepth 100000 in
theorem t_X3_set (l : Launch) (hnt : l.stackTraces = false) {E : Ev} {base : Nat} (hE : Adr YC E base) (σ : St) (a0 : Int32) (a1 : Int32) (a2 : Int64) (r : Except String Int32) (σ' : St) (h : c_X3_set σ a0 a1 a2 = some (r, σ')) : Ctr l yX3_set cX3_set 6 (some .int) 8 144 YC E base [.ref (E.2.2 0), .int a0, .int a1, .long a2] σ (rI r) σ' := by
  unfold c_X3_set at h
  refine ofV 1 (by decide +kernel) rfl hE hnt (Nat.le_of_ble_eq_true rfl) rfl (fun M hN K => ?_)
  refine v_aload0 (pc := 0) K dX3_set_0 ?_
  refine v_iload1 (pc := 1) K dX3_set_1 ?_
  rcases xb h with ⟨v1, s2, h3, h⟩ | ⟨e4, s2, h3, hF⟩
  · refine v_cV1U (pc := 2) K ca_yX3_needColumn ml_RX3_66 (Nat.le_of_ble_eq_true rfl) rfl rfl (t_X3_needColumn _ K.nt K.ad σ a0 (.ok v1) s2 h3) (Nat.le_of_ble_eq_true rfl) (by decide) (by decide) dX3_set_2 ?_
    refine v_aload0 (pc := 5) K dX3_set_5 ?_
    refine v_iload2 (pc := 6) K dX3_set_6 ?_
    rcases xb h with ⟨v5, s6, h7, h⟩ | ⟨e8, s6, h7, hF⟩
    · refine v_cV1U (pc := 7) K ca_yX3_needRow ml_RX3_79 (Nat.le_of_ble_eq_true rfl) rfl rfl (t_X3_needRow _ K.nt K.ad s2 a1 (.ok v5) s6 h7) (Nat.le_of_ble_eq_true rfl) (by decide) (by decide) dX3_set_7 ?_
      refine v_aload0 (pc := 10) K dX3_set_10 ?_
      refine v_iload1 (pc := 11) K dX3_set_11 ?_
      refine v_lload3 (pc := 12) K dX3_set_12 ?_
      rcases xb h with ⟨v9, s10, h11, h⟩ | ⟨e12, s10, h11, hF⟩
      · refine v_cV2U (pc := 13) K ca_yX3_needFit ml_RX3_82 (Nat.le_of_ble_eq_true rfl) rfl rfl (t_X3_needFit _ K.nt K.ad s6 a0 a2 (.ok v9) s10 h11) (Nat.le_of_ble_eq_true rfl) (by decide) (by decide) dX3_set_13 ?_
        refine v_aload0 (pc := 16) K dX3_set_16 ?_
        refine v_getR (pc := 17) K fl_RX3_14 dX3_set_17 (Nat.le_of_ble_eq_true rfl) rfl rfl ?_
        refine v_getR (pc := 20) K fl_RX3_86 dX3_set_20 (Nat.le_of_ble_eq_true rfl) rfl rfl ?_
        refine v_iload1 (pc := 23) K dX3_set_23 ?_
        obtain ⟨j13, h14, h⟩ := bd h
        refine v_aal (pc := 24) (b := 4) K dX3_set_24 (Nat.le_of_ble_eq_true rfl) rfl rfl h14 ?_
        refine v_iload2 (pc := 25) K dX3_set_25 ?_
        obtain ⟨j15, h16, h⟩ := bd h
        refine v_laload (pc := 26) K dX3_set_26 (rowC' (ix_lt h14)) (rowC (ix_lt h14)) h16 ?_
        refine v_ldc2 (pc := 27) K dX3_set_27 cl_RX3_90 ?_
        obtain ⟨t17, h19, h⟩ := bd h
        have hJ18 : V (mkX M YC E base 6 (rI r) σ') s10 39 [some (.ref (E.2.2 0)), some (.int a0), some (.int a1), some (.long a2), none, none] [.int t17] := by
          refine v_istore5 (pc := 39) K dX3_set_39 rfl (Nat.le_of_ble_eq_true rfl) ?_
          refine v_aload0 (pc := 41) K dX3_set_41 ?_
          refine v_getR (pc := 42) K fl_RX3_14 dX3_set_42 (Nat.le_of_ble_eq_true rfl) rfl rfl ?_
          refine v_getR (pc := 45) K fl_RX3_86 dX3_set_45 (Nat.le_of_ble_eq_true rfl) rfl rfl ?_
          refine v_iload1 (pc := 48) K dX3_set_48 ?_
          obtain ⟨j21, h22, h⟩ := bd h
          refine v_aal (pc := 49) (b := 4) K dX3_set_49 (Nat.le_of_ble_eq_true rfl) rfl rfl h22 ?_
          refine v_iload2 (pc := 50) K dX3_set_50 ?_
          refine v_lload3 (pc := 51) K dX3_set_51 ?_
          obtain ⟨j23, h24, h⟩ := bd h
          refine v_lastore (pc := 52) K dX3_set_52 (rowC' (ix_lt h22)) (rowC (ix_lt h22)) h24 ?_
          refine v_iload5 (pc := 53) K dX3_set_53 ?_
          cases h
          exact v_iret (pc := 55) K dX3_set_55 rfl rfl
        clear h
        have h := h19
        refine v_lc_ne (pc := 30) (tgt := 38) K dX3_set_30 dX3_set_31 (by decide) (fun c20 => ?_) (fun c20 => ?_)
        · have h := ie c20 h
          refine v_ic0 (pc := 38) K dX3_set_38 ?_
          cases h
          exact hJ18
        · have h := it c20 h
          refine v_ic1 (pc := 34) K dX3_set_34 ?_
          refine v_goto (pc := 35) (tgt := 39) K dX3_set_35 (by decide) ?_
          cases h
          exact hJ18
      · cases hF
        exact v_cV2X (pc := 13)  K ca_yX3_needFit ml_RX3_82 (Nat.le_of_ble_eq_true rfl) rfl rfl (t_X3_needFit _ K.nt K.ad s6 a0 a2 (.error e12) _ h11) (Nat.le_of_ble_eq_true rfl) (by decide) (by decide) dX3_set_13 hN rfl rfl
    · cases hF
      exact v_cV1X (pc := 7)  K ca_yX3_needRow ml_RX3_79 (Nat.le_of_ble_eq_true rfl) rfl rfl (t_X3_needRow _ K.nt K.ad s2 a1 (.error e8) _ h7) (Nat.le_of_ble_eq_true rfl) (by decide) (by decide) dX3_set_7 hN rfl rfl
  · cases hF
    exact v_cV1X (pc := 2)  K ca_yX3_needColumn ml_RX3_66 (Nat.le_of_ble_eq_true rfl) rfl rfl (t_X3_needColumn _ K.nt K.ad σ a0 (.error e4) _ h3) (Nat.le_of_ble_eq_true rfl) (by decide) (by decide) dX3_set_2 hN rfl rfl
set_option maxRecDepth 100000 in
def c_X3_clear (σ : St) (a0 : Int32) (a1 : Int32) : Option (Except String Int32 × St) :=
  (xB (c_X3_needColumn σ a0) fun _ s2 => (xB (c_X3_needRow s2 a1) fun _ s6 => ((ix a0 6).bind fun j9 => ((ix a1 192).bind fun j11 => ((if s6.2 (4 + j9) j11 = ((-9223372036854775808) : Int64) then some (0 : Int32) else some (1 : Int32)).bind fun (t13 : Int32) => ((ix a0 6).bind fun j17 => ((ix a1 192).bind fun j19 => some (.ok t13, (sL s6 (4 + j17) j19 ((-9223372036854775808) : Int64))))))))))
set_option maxHeartbeats 4000000 in
set_option maxRecDepth 100000 in
theorem t_X3_clear (l : Launch) (hnt : l.stackTraces = false) {E : Ev} {base : Nat} (hE : Adr YC E base) (σ : St) (a0 : Int32) (a1 : Int32) (r : Except String Int32) (σ' : St) (h : c_X3_clear σ a0 a1 = some (r, σ')) : Ctr l yX3_clear cX3_clear 4 (some .int) 7 121 YC E base [.ref (E.2.2 0), .int a0, .int a1] σ (rI r) σ' := by
  unfold c_X3_clear at h
  refine ofV 1 (by decide +kernel) rfl hE hnt (Nat.le_of_ble_eq_true rfl) rfl (fun M hN K => ?_)
  refine v_aload0 (pc := 0) K dX3_clear_0 ?_
  refine v_iload1 (pc := 1) K dX3_clear_1 ?_
  rcases xb h with ⟨v1, s2, h3, h⟩ | ⟨e4, s2, h3, hF⟩
  · refine v_cV1U (pc := 2) K ca_yX3_needColumn ml_RX3_66 (Nat.le_of_ble_eq_true rfl) rfl rfl (t_X3_needColumn _ K.nt K.ad σ a0 (.ok v1) s2 h3) (Nat.le_of_ble_eq_true rfl) (by decide) (by decide) dX3_clear_2 ?_
    refine v_aload0 (pc := 5) K dX3_clear_5 ?_
    refine v_iload2 (pc := 6) K dX3_clear_6 ?_
    rcases xb h with ⟨v5, s6, h7, h⟩ | ⟨e8, s6, h7, hF⟩
    · refine v_cV1U (pc := 7) K ca_yX3_needRow ml_RX3_79 (Nat.le_of_ble_eq_true rfl) rfl rfl (t_X3_needRow _ K.nt K.ad s2 a1 (.ok v5) s6 h7) (Nat.le_of_ble_eq_true rfl) (by decide) (by decide) dX3_clear_7 ?_
      refine v_aload0 (pc := 10) K dX3_clear_10 ?_
      refine v_getR (pc := 11) K fl_RX3_14 dX3_clear_11 (Nat.le_of_ble_eq_true rfl) rfl rfl ?_
      refine v_getR (pc := 14) K fl_RX3_86 dX3_clear_14 (Nat.le_of_ble_eq_true rfl) rfl rfl ?_
      refine v_iload1 (pc := 17) K dX3_clear_17 ?_
      obtain ⟨j9, h10, h⟩ := bd h
      refine v_aal (pc := 18) (b := 4) K dX3_clear_18 (Nat.le_of_ble_eq_true rfl) rfl rfl h10 ?_
      refine v_iload2 (pc := 19) K dX3_clear_19 ?_
      obtain ⟨j11, h12, h⟩ := bd h
      refine v_laload (pc := 20) K dX3_clear_20 (rowC' (ix_lt h10)) (rowC (ix_lt h10)) h12 ?_
      refine v_ldc2 (pc := 21) K dX3_clear_21 cl_RX3_90 ?_
      obtain ⟨t13, h15, h⟩ := bd h
      have hJ14 : V (mkX M YC E base 4 (rI r) σ') s6 33 [some (.ref (E.2.2 0)), some (.int a0), some (.int a1), none] [.int t13] := by
        refine v_istore3 (pc := 33) K dX3_clear_33 rfl (Nat.le_of_ble_eq_true rfl) ?_
        refine v_aload0 (pc := 34) K dX3_clear_34 ?_
        refine v_getR (pc := 35) K fl_RX3_14 dX3_clear_35 (Nat.le_of_ble_eq_true rfl) rfl rfl ?_
        refine v_getR (pc := 38) K fl_RX3_86 dX3_clear_38 (Nat.le_of_ble_eq_true rfl) rfl rfl ?_
        refine v_iload1 (pc := 41) K dX3_clear_41 ?_
        obtain ⟨j17, h18, h⟩ := bd h
        refine v_aal (pc := 42) (b := 4) K dX3_clear_42 (Nat.le_of_ble_eq_true rfl) rfl rfl h18 ?_
        refine v_iload2 (pc := 43) K dX3_clear_43 ?_
        refine v_ldc2 (pc := 44) K dX3_clear_44 cl_RX3_90 ?_
        obtain ⟨j19, h20, h⟩ := bd h
        refine v_lastore (pc := 47) K dX3_clear_47 (rowC' (ix_lt h18)) (rowC (ix_lt h18)) h20 ?_
        refine v_iload3 (pc := 48) K dX3_clear_48 ?_
        cases h
        exact v_iret (pc := 49) K dX3_clear_49 rfl rfl
      clear h
      have h := h15
      refine v_lc_ne (pc := 24) (tgt := 32) K dX3_clear_24 dX3_clear_25 (by decide) (fun c16 => ?_) (fun c16 => ?_)
      · have h := ie c16 h
        refine v_ic1 (pc := 32) K dX3_clear_32 ?_
        cases h
        exact hJ14
      · have h := it c16 h
        refine v_ic0 (pc := 28) K dX3_clear_28 ?_
        refine v_goto (pc := 29) (tgt := 33) K dX3_clear_29 (by decide) ?_
        cases h
        exact hJ14
    · cases hF
      exact v_cV1X (pc := 7)  K ca_yX3_needRow ml_RX3_79 (Nat.le_of_ble_eq_true rfl) rfl rfl (t_X3_needRow _ K.nt K.ad s2 a1 (.error e8) _ h7) (Nat.le_of_ble_eq_true rfl) (by decide) (by decide) dX3_clear_7 hN rfl rfl
  · cases hF
    exact v_cV1X (pc := 2)  K ca_yX3_needColumn ml_RX3_66 (Nat.le_of_ble_eq_true rfl) rfl rfl (t_X3_needColumn _ K.nt K.ad σ a0 (.error e4) _ h3) (Nat.le_of_ble_eq_true rfl) (by decide) (by decide) dX3_clear_2 hN rfl rfl
set_option maxRecDepth 100000 in
def c_X3_get (σ : St) (a0 : Int32) (a1 : Int32) : Option (Except String Int64 × St) :=
  (xB (c_X3_needColumn σ a0) fun _ s2 => (xB (c_X3_needRow s2 a1) fun _ s6 => ((ix a0 6).bind fun j9 => ((ix a1 192).bind fun j11 => some (.ok (s6.2 (4 + j9) j11), s6)))))
set_option maxHeartbeats 4000000 in
set_option maxRecDepth 100000 in
theorem t_X3_get (l : Launch) (hnt : l.stackTraces = false) {E : Ev} {base : Nat} (hE : Adr YC E base) (σ : St) (a0 : Int32) (a1 : Int32) (r : Except String Int64) (σ' : St) (h : c_X3_get σ a0 a1 = some (r, σ')) : Ctr l yX3_get cX3_get 3 (some .long) 7 121 YC E base [.ref (E.2.2 0), .int a0, .int a1] σ (rL r) σ' := by
  unfold c_X3_get at h
  refine ofV 0 (by decide +kernel) rfl hE hnt (Nat.le_of_ble_eq_true rfl) rfl (fun M hN K => ?_)
  refine v_aload0 (pc := 0) K dX3_get_0 ?_
  refine v_iload1 (pc := 1) K dX3_get_1 ?_
  rcases xb h with ⟨v1, s2, h3, h⟩ | ⟨e4, s2, h3, hF⟩
  · refine v_cV1U (pc := 2) K ca_yX3_needColumn ml_RX3_66 (Nat.le_of_ble_eq_true rfl) rfl rfl (t_X3_needColumn _ K.nt K.ad σ a0 (.ok v1) s2 h3) (Nat.le_of_ble_eq_true rfl) (by decide) (by decide) dX3_get_2 ?_
    refine v_aload0 (pc := 5) K dX3_get_5 ?_
    refine v_iload2 (pc := 6) K dX3_get_6 ?_
    rcases xb h with ⟨v5, s6, h7, h⟩ | ⟨e8, s6, h7, hF⟩
    · refine v_cV1U (pc := 7) K ca_yX3_needRow ml_RX3_79 (Nat.le_of_ble_eq_true rfl) rfl rfl (t_X3_needRow _ K.nt K.ad s2 a1 (.ok v5) s6 h7) (Nat.le_of_ble_eq_true rfl) (by decide) (by decide) dX3_get_7 ?_
      refine v_aload0 (pc := 10) K dX3_get_10 ?_
      refine v_getR (pc := 11) K fl_RX3_14 dX3_get_11 (Nat.le_of_ble_eq_true rfl) rfl rfl ?_
      refine v_getR (pc := 14) K fl_RX3_86 dX3_get_14 (Nat.le_of_ble_eq_true rfl) rfl rfl ?_
      refine v_iload1 (pc := 17) K dX3_get_17 ?_
      obtain ⟨j9, h10, h⟩ := bd h
      refine v_aal (pc := 18) (b := 4) K dX3_get_18 (Nat.le_of_ble_eq_true rfl) rfl rfl h10 ?_
      refine v_iload2 (pc := 19) K dX3_get_19 ?_
      obtain ⟨j11, h12, h⟩ := bd h
      refine v_laload (pc := 20) K dX3_get_20 (rowC' (ix_lt h10)) (rowC (ix_lt h10)) h12 ?_
      cases h
      exact v_lret (pc := 21) K dX3_get_21 rfl rfl
    · cases hF
      exact v_cV1X (pc := 7)  K ca_yX3_needRow ml_RX3_79 (Nat.le_of_ble_eq_true rfl) rfl rfl (t_X3_needRow _ K.nt K.ad s2 a1 (.error e8) _ h7) (Nat.le_of_ble_eq_true rfl) (by decide) (by decide) dX3_get_7 hN rfl rfl
  · cases hF
    exact v_cV1X (pc := 2)  K ca_yX3_needColumn ml_RX3_66 (Nat.le_of_ble_eq_true rfl) rfl rfl (t_X3_needColumn _ K.nt K.ad σ a0 (.error e4) _ h3) (Nat.le_of_ble_eq_true rfl) (by decide) (by decide) dX3_get_2 hN rfl rfl
set_option maxRecDepth 100000 in
def c_X1_leastWidth (σ : St) (a0 : Int32) : Option (Int32) :=
  ((lp 5000 (fun (s1 : Int32 × Int32) => (if σ.1 1 0 ≤ s1.2 then some (.inr s1.1) else ((lp 5000 (fun (s9 : Int32) => (if (63 : Int32) ≤ s9 then some (.inr s9) else ((ix a0 6).bind fun j17 => ((ix s1.2 192).bind fun j19 => (if σ.2 (4 + j17) j19 = ((-9223372036854775808) : Int64) then some (.inr s9) else ((ix a0 6).bind fun j22 => ((ix s1.2 192).bind fun j24 => ((c_X3_fits σ s9 (σ.2 (4 + j22) j24)).bind fun v26 => (if v26 = 0 then some (.inl (s9 + 1)) else some (.inr s9)))))))))) s1.1).bind fun (r10 : Int32) => some (.inl (r10, (s1.2 + 1)))))) ((2 : Int32), (0 : Int32))).bind fun (r2 : Int32) => some r2)
set_option maxHeartbeats 4000000 in
set_option maxRecDepth 100000 in
theorem t_X1_leastWidth (l : Launch) (hnt : l.stackTraces = false) {E : Ev} {base : Nat} (hE : Adr YC E base) (σ : St) (a0 : Int32) (r : Int32) (h : c_X1_leastWidth σ a0 = some r) : Ctr l yX1_leastWidth cX1_leastWidth 4 (some .int) 1 24 YC E base [.ref (E.2.2 1), .int a0] σ (.ok (some (.int r))) σ := by
  unfold c_X1_leastWidth at h
  refine ofV 2 (by decide +kernel) rfl hE hnt (Nat.le_of_ble_eq_true rfl) rfl (fun M hN K => ?_)
  refine v_ic2 (pc := 0) K dX1_leastWidth_0 ?_
  refine v_istore2 (pc := 1) K dX1_leastWidth_1 rfl (Nat.le_of_ble_eq_true rfl) ?_
  refine v_ic0 (pc := 2) K dX1_leastWidth_2 ?_
  refine v_istore3 (pc := 3) K dX1_leastWidth_3 rfl (Nat.le_of_ble_eq_true rfl) ?_
  obtain ⟨r2, h4, h⟩ := bd h
  have hJ3 : V (mkX M YC E base 4 (.ok (some (.int r))) σ) σ 60 [none, none, some (.int r2), none] [] := by
    refine v_iload2 (pc := 60) K dX1_leastWidth_60 ?_
    cases h
    exact v_iret (pc := 61) K dX1_leastWidth_61 rfl rfl
  clear h
  have hL30 := lpv h4 (fun s1 : Int32 × Int32 => V (mkX M YC E base 4 (.ok (some (.int r))) σ) σ 4 [some (.ref (E.2.2 1)), some (.int a0), some (.int s1.1), some (.int s1.2)] [])
  refine hL30 (fun s1 o h hk => ?_)
  refine v_iload3 (pc := 4) K dX1_leastWidth_4 ?_
  refine v_aload0 (pc := 5) K dX1_leastWidth_5 ?_
  refine v_getI (pc := 6) K fl_RX1_23 dX1_leastWidth_6 (Nat.le_of_ble_eq_true rfl) rfl rfl ?_
  refine v_icmp_ge (pc := 9) (tgt := 60) K dX1_leastWidth_9 (by decide) (fun c8 => ?_) (fun c8 => ?_)
  · have h := it c8 h
    have e := lx h hk
    cases e
    exact v_fg [false, false, true, false] hJ3
  · have h := ie c8 h
    obtain ⟨r10, h12, h⟩ := bd h
    have hJ11 : V (mkX M YC E base 4 (.ok (some (.int r))) σ) σ 54 [some (.ref (E.2.2 1)), some (.int a0), some (.int r10), some (.int s1.2)] [] := by
      refine v_iinc3 (pc := 54) (w := 1) K dX1_leastWidth_54 rfl (Nat.le_of_ble_eq_true rfl) (by decide) ?_
      refine v_goto (pc := 57) (tgt := 4) K dX1_leastWidth_57 (by decide) ?_
      have e := lfc h hk
      exact e
    clear h
    have hL29 := lpv h12 (fun s9 : Int32 => V (mkX M YC E base 4 (.ok (some (.int r))) σ) σ 12 [some (.ref (E.2.2 1)), some (.int a0), some (.int s9), some (.int s1.2)] [])
    refine hL29 (fun s9 o h hk => ?_)
    refine v_iload2 (pc := 12) K dX1_leastWidth_12 ?_
    refine v_bipush (pc := 13) (v := 63) K dX1_leastWidth_13 (by decide) ?_
    refine v_icmp_ge (pc := 15) (tgt := 54) K dX1_leastWidth_15 (by decide) (fun c16 => ?_) (fun c16 => ?_)
    · have h := it c16 h
      have e := lx h hk
      cases e
      exact hJ11
    · have h := ie c16 h
      refine v_aload0 (pc := 18) K dX1_leastWidth_18 ?_
      refine v_getR (pc := 19) K fl_RX1_17 dX1_leastWidth_19 (Nat.le_of_ble_eq_true rfl) rfl rfl ?_
      refine v_iload1 (pc := 22) K dX1_leastWidth_22 ?_
      obtain ⟨j17, h18, h⟩ := bd h
      refine v_aal (pc := 23) (b := 4) K dX1_leastWidth_23 (Nat.le_of_ble_eq_true rfl) rfl rfl h18 ?_
      refine v_iload3 (pc := 24) K dX1_leastWidth_24 ?_
      obtain ⟨j19, h20, h⟩ := bd h
      refine v_laload (pc := 25) K dX1_leastWidth_25 (rowC' (ix_lt h18)) (rowC (ix_lt h18)) h20 ?_
      refine v_ldc2 (pc := 26) K dX1_leastWidth_26 cl_RX1_36 ?_
      refine v_lc_eq (pc := 29) (tgt := 54) K dX1_leastWidth_29 dX1_leastWidth_30 (by decide) (fun c21 => ?_) (fun c21 => ?_)
      · have h := it c21 h
        have e := lx h hk
        cases e
        exact hJ11
      · have h := ie c21 h
        refine v_iload2 (pc := 33) K dX1_leastWidth_33 ?_
        refine v_aload0 (pc := 34) K dX1_leastWidth_34 ?_
        refine v_getR (pc := 35) K fl_RX1_17 dX1_leastWidth_35 (Nat.le_of_ble_eq_true rfl) rfl rfl ?_
        refine v_iload1 (pc := 38) K dX1_leastWidth_38 ?_
        obtain ⟨j22, h23, h⟩ := bd h
        refine v_aal (pc := 39) (b := 4) K dX1_leastWidth_39 (Nat.le_of_ble_eq_true rfl) rfl rfl h23 ?_
        refine v_iload3 (pc := 40) K dX1_leastWidth_40 ?_
        obtain ⟨j24, h25, h⟩ := bd h
        refine v_laload (pc := 41) K dX1_leastWidth_41 (rowC' (ix_lt h23)) (rowC (ix_lt h23)) h25 ?_
        obtain ⟨v26, h27, h⟩ := bd h
        refine v_cN2I (pc := 42) (host := "SliceColumns") K ca_yX3_fits (by decide +kernel) (t_X3_fits _ K.nt K.ad σ s9 (σ.2 (4 + j22) j24) v26 h27) (Nat.le_of_ble_eq_true rfl) (by decide) (by decide) dX1_leastWidth_42 ?_
        refine v_if_ne (pc := 45) (tgt := 54) K dX1_leastWidth_45 (by decide) (fun c28 => ?_) (fun c28 => ?_)
        · have h := ie c28 h
          have e := lx h hk
          cases e
          exact hJ11
        · have h := it c28 h
          refine v_iinc2 (pc := 48) (w := 1) K dX1_leastWidth_48 rfl (Nat.le_of_ble_eq_true rfl) (by decide) ?_
          refine v_goto (pc := 51) (tgt := 12) K dX1_leastWidth_51 (by decide) ?_
          have e := lfc h hk
          exact e
set_option maxRecDepth 100000 in
def c_X3_width (σ : St) (a0 : Int32) (a1 : Int32) : Option (Except String Int32 × St) :=
  (xB (c_X3_needColumn σ a0) fun _ s2 => ((if a1 < 0 then some (0 : Int32) else (if (2 : Int32) < a1 then some (0 : Int32) else some (1 : Int32))).bind fun (t5 : Int32) => (xB (c_X3_needArgument s2 t5) fun _ s11 => (if a1 = 0 then ((ix a0 6).bind fun j23 => some (.ok (s11.1 2 j23), s11)) else ((if a1 = (1 : Int32) then ((c_X1_numbersOf s11 a0).bind fun v21 => some v21) else ((c_X1_leastWidth s11 a0).bind fun v19 => some v19)).bind fun (t15 : Int32) => some (.ok t15, s11))))))
set_option maxHeartbeats 4000000 in
set_option maxRecDepth 100000 in
theorem t_X3_width (l : Launch) (hnt : l.stackTraces = false) {E : Ev} {base : Nat} (hE : Adr YC E base) (σ : St) (a0 : Int32) (a1 : Int32) (r : Except String Int32) (σ' : St) (h : c_X3_width σ a0 a1 = some (r, σ')) : Ctr l yX3_width cX3_width 3 (some .int) 7 121 YC E base [.ref (E.2.2 0), .int a0, .int a1] σ (rI r) σ' := by
  unfold c_X3_width at h
  refine ofV 0 (by decide +kernel) rfl hE hnt (Nat.le_of_ble_eq_true rfl) rfl (fun M hN K => ?_)
  refine v_aload0 (pc := 0) K dX3_width_0 ?_
  refine v_iload1 (pc := 1) K dX3_width_1 ?_
  rcases xb h with ⟨v1, s2, h3, h⟩ | ⟨e4, s2, h3, hF⟩
  · refine v_cV1U (pc := 2) K ca_yX3_needColumn ml_RX3_66 (Nat.le_of_ble_eq_true rfl) rfl rfl (t_X3_needColumn _ K.nt K.ad σ a0 (.ok v1) s2 h3) (Nat.le_of_ble_eq_true rfl) (by decide) (by decide) dX3_width_2 ?_
    refine v_iload2 (pc := 5) K dX3_width_5 ?_
    obtain ⟨t5, h7, h⟩ := bd h
    have hJ6 : V (mkX M YC E base 3 (rI r) σ') s2 19 [some (.ref (E.2.2 0)), some (.int a0), some (.int a1)] [.int t5] := by
      rcases xb h with ⟨v10, s11, h12, h⟩ | ⟨e13, s11, h12, hF⟩
      · refine v_cS1U (pc := 19) K ca_yX3_needArgument ml_RX3_73 (t_X3_needArgument _ K.nt K.ad s2 t5 (.ok v10) s11 h12) (Nat.le_of_ble_eq_true rfl) (by decide) (by decide) dX3_width_19 ?_
        refine v_iload2 (pc := 22) K dX3_width_22 ?_
        refine v_if_ne (pc := 23) (tgt := 36) K dX3_width_23 (by decide) (fun c14 => ?_) (fun c14 => ?_)
        · have h := ie c14 h
          refine v_iload2 (pc := 36) K dX3_width_36 ?_
          refine v_ic1 (pc := 37) K dX3_width_37 ?_
          obtain ⟨t15, h17, h⟩ := bd h
          have hJ16 : V (mkX M YC E base 3 (rI r) σ') s11 60 [none, none, none] [.int t15] := by
            cases h
            exact v_iret (pc := 60) K dX3_width_60 rfl rfl
          clear h
          have h := h17
          refine v_icmp_ne (pc := 38) (tgt := 52) K dX3_width_38 (by decide) (fun c18 => ?_) (fun c18 => ?_)
          · have h := ie c18 h
            refine v_aload0 (pc := 52) K dX3_width_52 ?_
            refine v_getR (pc := 53) K fl_RX3_14 dX3_width_53 (Nat.le_of_ble_eq_true rfl) rfl rfl ?_
            refine v_iload1 (pc := 56) K dX3_width_56 ?_
            obtain ⟨v19, h20, h⟩ := bd h
            refine v_cV1I (pc := 57)  K ca_yX1_leastWidth ml_RX3_106 (Nat.le_of_ble_eq_true rfl) rfl rfl (t_X1_leastWidth _ K.nt K.ad s11 a0 v19 h20) (Nat.le_of_ble_eq_true rfl) (by decide) (by decide) dX3_width_57 ?_
            cases h
            exact (v_fg [false, false, false] hJ16)
          · have h := it c18 h
            refine v_aload0 (pc := 41) K dX3_width_41 ?_
            refine v_getR (pc := 42) K fl_RX3_14 dX3_width_42 (Nat.le_of_ble_eq_true rfl) rfl rfl ?_
            refine v_iload1 (pc := 45) K dX3_width_45 ?_
            obtain ⟨v21, h22, h⟩ := bd h
            refine v_cV1I (pc := 46)  K ca_yX1_numbersOf ml_RX3_102 (Nat.le_of_ble_eq_true rfl) rfl rfl (t_X1_numbersOf _ K.nt K.ad s11 a0 v21 h22) (Nat.le_of_ble_eq_true rfl) (by decide) (by decide) dX3_width_46 ?_
            refine v_goto (pc := 49) (tgt := 60) K dX3_width_49 (by decide) ?_
            cases h
            exact (v_fg [false, false, false] hJ16)
        · have h := it c14 h
          refine v_aload0 (pc := 26) K dX3_width_26 ?_
          refine v_getR (pc := 27) K fl_RX3_14 dX3_width_27 (Nat.le_of_ble_eq_true rfl) rfl rfl ?_
          refine v_getR (pc := 30) K fl_RX3_58 dX3_width_30 (Nat.le_of_ble_eq_true rfl) rfl rfl ?_
          refine v_iload1 (pc := 33) K dX3_width_33 ?_
          obtain ⟨j23, h24, h⟩ := bd h
          refine v_iaload (pc := 34) K dX3_width_34 (Nat.le_of_ble_eq_true rfl) rfl h24 ?_
          cases h
          exact v_iret (pc := 35) K dX3_width_35 rfl rfl
      · cases hF
        exact v_cS1X (pc := 19)  K ca_yX3_needArgument ml_RX3_73 (t_X3_needArgument _ K.nt K.ad s2 t5 (.error e13) _ h12) (Nat.le_of_ble_eq_true rfl) (by decide) (by decide) dX3_width_19 hN rfl rfl
    clear h
    have h := h7
    refine v_if_lt (pc := 6) (tgt := 18) K dX3_width_6 (by decide) (fun c8 => ?_) (fun c8 => ?_)
    · have h := it c8 h
      refine v_ic0 (pc := 18) K dX3_width_18 ?_
      cases h
      exact hJ6
    · have h := ie c8 h
      refine v_iload2 (pc := 9) K dX3_width_9 ?_
      refine v_ic2 (pc := 10) K dX3_width_10 ?_
      refine v_icmp_gt (pc := 11) (tgt := 18) K dX3_width_11 (by decide) (fun c9 => ?_) (fun c9 => ?_)
      · have h := it c9 h
        refine v_ic0 (pc := 18) K dX3_width_18 ?_
        cases h
        exact hJ6
      · have h := ie c9 h
        refine v_ic1 (pc := 14) K dX3_width_14 ?_
        refine v_goto (pc := 15) (tgt := 19) K dX3_width_15 (by decide) ?_
        cases h
        exact hJ6
  · cases hF
    exact v_cV1X (pc := 2)  K ca_yX3_needColumn ml_RX3_66 (Nat.le_of_ble_eq_true rfl) rfl rfl (t_X3_needColumn _ K.nt K.ad σ a0 (.error e4) _ h3) (Nat.le_of_ble_eq_true rfl) (by decide) (by decide) dX3_width_2 hN rfl rfl
set_option maxRecDepth 100000 in
def c_X3_needBit (σ : St) (a0 : Int32) (a1 : Int32) : Option (Except String Unit × St) :=
  (if a1 < 0 then some (.error "java/lang/IndexOutOfBoundsException", σ) else ((ix a0 6).bind fun j2 => (if a1 < σ.1 2 j2 then some (.ok (), σ) else some (.error "java/lang/IndexOutOfBoundsException", σ))))
set_option maxHeartbeats 4000000 in
set_option maxRecDepth 100000 in
theorem t_X3_needBit (l : Launch) (hnt : l.stackTraces = false) {E : Ev} {base : Nat} (hE : Adr YC E base) (σ : St) (a0 : Int32) (a1 : Int32) (r : Except String Unit) (σ' : St) (h : c_X3_needBit σ a0 a1 = some (r, σ')) : Ctr l yX3_needBit cX3_needBit 3 none 6 100 YC E base [.ref (E.2.2 0), .int a0, .int a1] σ (rU r) σ' := by
  unfold c_X3_needBit at h
  refine ofV 0 (by decide +kernel) rfl hE hnt (Nat.le_of_ble_eq_true rfl) rfl (fun M hN K => ?_)
  refine v_iload2 (pc := 0) K dX3_needBit_0 ?_
  refine v_if_lt (pc := 1) (tgt := 17) K dX3_needBit_1 (by decide) (fun c1 => ?_) (fun c1 => ?_)
  · have h := it c1 h
    cases h
    exact v_throw (pc := 17) (text := "no such bit") K hN tw_IndexOutOfBoundsException (by decide +kernel) dX3_needBit_17 dX3_needBit_20 dX3_needBit_21 dX3_needBit_24 dX3_needBit_27 (by decide) (by decide) rfl rfl
  · have h := ie c1 h
    refine v_iload2 (pc := 4) K dX3_needBit_4 ?_
    refine v_aload0 (pc := 5) K dX3_needBit_5 ?_
    refine v_getR (pc := 6) K fl_RX3_14 dX3_needBit_6 (Nat.le_of_ble_eq_true rfl) rfl rfl ?_
    refine v_getR (pc := 9) K fl_RX3_58 dX3_needBit_9 (Nat.le_of_ble_eq_true rfl) rfl rfl ?_
    refine v_iload1 (pc := 12) K dX3_needBit_12 ?_
    obtain ⟨j2, h3, h⟩ := bd h
    refine v_iaload (pc := 13) K dX3_needBit_13 (Nat.le_of_ble_eq_true rfl) rfl h3 ?_
    refine v_icmp_lt (pc := 14) (tgt := 28) K dX3_needBit_14 (by decide) (fun c4 => ?_) (fun c4 => ?_)
    · have h := it c4 h
      cases h
      exact v_vret (pc := 28) K dX3_needBit_28 rfl rfl
    · have h := ie c4 h
      cases h
      exact v_throw (pc := 17) (text := "no such bit") K hN tw_IndexOutOfBoundsException (by decide +kernel) dX3_needBit_17 dX3_needBit_20 dX3_needBit_21 dX3_needBit_24 dX3_needBit_27 (by decide) (by decide) rfl rfl
set_option maxRecDepth 100000 in
def c_X3_needWord (σ : St) (a0 : Int32) : Option (Except String Unit × St) :=
  (if a0 < 0 then some (.error "java/lang/IndexOutOfBoundsException", σ) else (if a0 < (3 : Int32) then some (.ok (), σ) else some (.error "java/lang/IndexOutOfBoundsException", σ)))
set_option maxHeartbeats 4000000 in
set_option maxRecDepth 100000 in
theorem t_X3_needWord (l : Launch) (hnt : l.stackTraces = false) {E : Ev} {base : Nat} (hE : Adr YC E base) (σ : St) (a0 : Int32) (r : Except String Unit) (σ' : St) (h : c_X3_needWord σ a0 = some (r, σ')) : Ctr l yX3_needWord cX3_needWord 1 none 6 100 YC E base [.int a0] σ (rU r) σ' := by
  unfold c_X3_needWord at h
  refine ofV 0 (by decide +kernel) rfl hE hnt (Nat.le_of_ble_eq_true rfl) rfl (fun M hN K => ?_)
  refine v_iload0 (pc := 0) K dX3_needWord_0 ?_
  refine v_if_lt (pc := 1) (tgt := 9) K dX3_needWord_1 (by decide) (fun c1 => ?_) (fun c1 => ?_)
  · have h := it c1 h
    cases h
    exact v_throw (pc := 9) (text := "no such word") K hN tw_IndexOutOfBoundsException (by decide +kernel) dX3_needWord_9 dX3_needWord_12 dX3_needWord_13 dX3_needWord_16 dX3_needWord_19 (by decide) (by decide) rfl rfl
  · have h := ie c1 h
    refine v_iload0 (pc := 4) K dX3_needWord_4 ?_
    refine v_ic3 (pc := 5) K dX3_needWord_5 ?_
    refine v_icmp_lt (pc := 6) (tgt := 20) K dX3_needWord_6 (by decide) (fun c2 => ?_) (fun c2 => ?_)
    · have h := it c2 h
      cases h
      exact v_vret (pc := 20) K dX3_needWord_20 rfl rfl
    · have h := ie c2 h
      cases h
      exact v_throw (pc := 9) (text := "no such word") K hN tw_IndexOutOfBoundsException (by decide +kernel) dX3_needWord_9 dX3_needWord_12 dX3_needWord_13 dX3_needWord_16 dX3_needWord_19 (by decide) (by decide) rfl rfl
set_option maxRecDepth 100000 in
def c_X3_hasBit (σ : St) (a0 : Int64) (a1 : Int32) : Option (Int32) :=
  ((if ((a0 >>> ((a1).toInt64 &&& 63)) &&& (1 : Int64)) = (0 : Int64) then some (0 : Int32) else some (1 : Int32)).bind fun (t1 : Int32) => some (nz t1))
set_option maxHeartbeats 4000000 in
set_option maxRecDepth 100000 in
theorem t_X3_hasBit (l : Launch) (hnt : l.stackTraces = false) {E : Ev} {base : Nat} (hE : Adr YC E base) (σ : St) (a0 : Int64) (a1 : Int32) (r : Int32) (h : c_X3_hasBit σ a0 a1 = some r) : Ctr l yX3_hasBit cX3_hasBit 3 (some .boolean) 0 0 YC E base [.long a0, .int a1] σ (.ok (some (.int r))) σ := by
  unfold c_X3_hasBit at h
  refine ofV 0 (by decide +kernel) rfl hE hnt (Nat.le_of_ble_eq_true rfl) rfl (fun M hN K => ?_)
  refine v_lload0 (pc := 0) K dX3_hasBit_0 ?_
  refine v_iload2 (pc := 1) K dX3_hasBit_1 ?_
  refine v_lshr (pc := 2) K dX3_hasBit_2 ?_
  refine v_lc1 (pc := 3) K dX3_hasBit_3 ?_
  refine v_land (pc := 4) K dX3_hasBit_4 ?_
  refine v_lc0 (pc := 5) K dX3_hasBit_5 ?_
  obtain ⟨t1, h3, h⟩ := bd h
  have hJ2 : V (mkX M YC E base 3 (.ok (some (.int r))) σ) σ 15 [none, none, none] [.int t1] := by
    cases h
    exact v_zret (pc := 15) K dX3_hasBit_15 rfl rfl
  clear h
  have h := h3
  refine v_lc_eq (pc := 6) (tgt := 14) K dX3_hasBit_6 dX3_hasBit_7 (by decide) (fun c4 => ?_) (fun c4 => ?_)
  · have h := it c4 h
    refine v_ic0 (pc := 14) K dX3_hasBit_14 ?_
    cases h
    exact (v_fg [false, true, false] hJ2)
  · have h := ie c4 h
    refine v_ic1 (pc := 10) K dX3_hasBit_10 ?_
    refine v_goto (pc := 11) (tgt := 15) K dX3_hasBit_11 (by decide) ?_
    cases h
    exact (v_fg [false, true, false] hJ2)
set_option maxRecDepth 100000 in
def c_X3_slice (σ : St) (a0 : Int32) (a1 : Int32) (a2 : Int32) : Option (Except String Int64 × St) :=
  (xB (c_X3_needColumn σ a0) fun _ s2 => (xB (c_X3_needBit s2 a0 a1) fun _ s6 => (xB (c_X3_needWord s6 a2) fun _ s10 => ((c_X3_begin s10).bind fun v13 => ((lp 5000 (fun (s15 : Int32 × St) => (if s15.2.1 1 0 ≤ s15.1 then some (.inr s15.2) else ((ix a0 6).bind fun j23 => ((ix s15.1 192).bind fun j25 => ((c_X3_hasBit s15.2 (s15.2.2 (4 + j23) j25) a1).bind fun v27 => ((if v27 = 0 then some s15.2 else ((c_X3_include s15.2 s15.1).bind fun v33 => some v33)).bind fun (t29 : St) => some (.inl ((s15.1 + 1), t29)))))))) ((0 : Int32), v13)).bind fun (r16 : St) => ((ix a2 3).bind fun j35 => some (.ok (r16.2 26 j35), r16)))))))
set_option maxHeartbeats 4000000 in
set_option maxRecDepth 100000 in
theorem t_X3_slice (l : Launch) (hnt : l.stackTraces = false) {E : Ev} {base : Nat} (hE : Adr YC E base) (σ : St) (a0 : Int32) (a1 : Int32) (a2 : Int32) (r : Except String Int64) (σ' : St) (h : c_X3_slice σ a0 a1 a2 = some (r, σ')) : Ctr l yX3_slice cX3_slice 5 (some .long) 7 122 YC E base [.ref (E.2.2 0), .int a0, .int a1, .int a2] σ (rL r) σ' := by
  unfold c_X3_slice at h
  refine ofV 1 (by decide +kernel) rfl hE hnt (Nat.le_of_ble_eq_true rfl) rfl (fun M hN K => ?_)
  refine v_aload0 (pc := 0) K dX3_slice_0 ?_
  refine v_iload1 (pc := 1) K dX3_slice_1 ?_
  rcases xb h with ⟨v1, s2, h3, h⟩ | ⟨e4, s2, h3, hF⟩
  · refine v_cV1U (pc := 2) K ca_yX3_needColumn ml_RX3_66 (Nat.le_of_ble_eq_true rfl) rfl rfl (t_X3_needColumn _ K.nt K.ad σ a0 (.ok v1) s2 h3) (Nat.le_of_ble_eq_true rfl) (by decide) (by decide) dX3_slice_2 ?_
    refine v_aload0 (pc := 5) K dX3_slice_5 ?_
    refine v_iload1 (pc := 6) K dX3_slice_6 ?_
    refine v_iload2 (pc := 7) K dX3_slice_7 ?_
    rcases xb h with ⟨v5, s6, h7, h⟩ | ⟨e8, s6, h7, hF⟩
    · refine v_cV2U (pc := 8) K ca_yX3_needBit ml_RX3_109 (Nat.le_of_ble_eq_true rfl) rfl rfl (t_X3_needBit _ K.nt K.ad s2 a0 a1 (.ok v5) s6 h7) (Nat.le_of_ble_eq_true rfl) (by decide) (by decide) dX3_slice_8 ?_
      refine v_iload3 (pc := 11) K dX3_slice_11 ?_
      rcases xb h with ⟨v9, s10, h11, h⟩ | ⟨e12, s10, h11, hF⟩
      · refine v_cS1U (pc := 12) K ca_yX3_needWord ml_RX3_112 (t_X3_needWord _ K.nt K.ad s6 a2 (.ok v9) s10 h11) (Nat.le_of_ble_eq_true rfl) (by decide) (by decide) dX3_slice_12 ?_
        refine v_aload0 (pc := 15) K dX3_slice_15 ?_
        obtain ⟨v13, h14, h⟩ := bd h
        refine v_cV0U (pc := 16)  K ca_yX3_begin ml_RX3_115 (Nat.le_of_ble_eq_true rfl) rfl rfl (t_X3_begin _ K.nt K.ad s10 v13 h14) (Nat.le_of_ble_eq_true rfl) (by decide) (by decide) dX3_slice_16 ?_
        refine v_ic0 (pc := 19) K dX3_slice_19 ?_
        refine v_istore4 (pc := 20) K dX3_slice_20 rfl (Nat.le_of_ble_eq_true rfl) ?_
        obtain ⟨r16, h18, h⟩ := bd h
        have hJ17 : V (mkX M YC E base 5 (rL r) σ') r16 65 [some (.ref (E.2.2 0)), none, none, some (.int a2), none] [] := by
          refine v_aload0 (pc := 65) K dX3_slice_65 ?_
          refine v_getR (pc := 66) K fl_RX3_36 dX3_slice_66 (Nat.le_of_ble_eq_true rfl) rfl rfl ?_
          refine v_iload3 (pc := 69) K dX3_slice_69 ?_
          obtain ⟨j35, h36, h⟩ := bd h
          refine v_laload (pc := 70) K dX3_slice_70 (Nat.le_of_ble_eq_true rfl) rfl h36 ?_
          cases h
          exact v_lret (pc := 71) K dX3_slice_71 rfl rfl
        clear h
        have hL37 := lpv h18 (fun s15 : Int32 × St => V (mkX M YC E base 5 (rL r) σ') s15.2 22 [some (.ref (E.2.2 0)), some (.int a0), some (.int a1), some (.int a2), some (.int s15.1)] [])
        refine hL37 (fun s15 o h hk => ?_)
        refine v_iload4 (pc := 22) K dX3_slice_22 ?_
        refine v_aload0 (pc := 24) K dX3_slice_24 ?_
        refine v_getR (pc := 25) K fl_RX3_14 dX3_slice_25 (Nat.le_of_ble_eq_true rfl) rfl rfl ?_
        refine v_getI (pc := 28) K fl_RX3_76 dX3_slice_28 (Nat.le_of_ble_eq_true rfl) rfl rfl ?_
        refine v_icmp_ge (pc := 31) (tgt := 65) K dX3_slice_31 (by decide) (fun c22 => ?_) (fun c22 => ?_)
        · have h := it c22 h
          have e := lx h hk
          cases e
          exact v_fg [true, false, false, true, false] hJ17
        · have h := ie c22 h
          refine v_aload0 (pc := 34) K dX3_slice_34 ?_
          refine v_getR (pc := 35) K fl_RX3_14 dX3_slice_35 (Nat.le_of_ble_eq_true rfl) rfl rfl ?_
          refine v_getR (pc := 38) K fl_RX3_86 dX3_slice_38 (Nat.le_of_ble_eq_true rfl) rfl rfl ?_
          refine v_iload1 (pc := 41) K dX3_slice_41 ?_
          obtain ⟨j23, h24, h⟩ := bd h
          refine v_aal (pc := 42) (b := 4) K dX3_slice_42 (Nat.le_of_ble_eq_true rfl) rfl rfl h24 ?_
          refine v_iload4 (pc := 43) K dX3_slice_43 ?_
          obtain ⟨j25, h26, h⟩ := bd h
          refine v_laload (pc := 45) K dX3_slice_45 (rowC' (ix_lt h24)) (rowC (ix_lt h24)) h26 ?_
          refine v_iload2 (pc := 46) K dX3_slice_46 ?_
          obtain ⟨v27, h28, h⟩ := bd h
          refine v_cS2I (pc := 47)  K ca_yX3_hasBit ml_RX3_118 (t_X3_hasBit _ K.nt K.ad s15.2 (s15.2.2 (4 + j23) j25) a1 v27 h28) (Nat.le_of_ble_eq_true rfl) (by decide) (by decide) dX3_slice_47 ?_
          obtain ⟨t29, h31, h⟩ := bd h
          have hJ30 : V (mkX M YC E base 5 (rL r) σ') t29 59 [some (.ref (E.2.2 0)), some (.int a0), some (.int a1), some (.int a2), some (.int s15.1)] [] := by
            refine v_iinc4 (pc := 59) (w := 1) K dX3_slice_59 rfl (Nat.le_of_ble_eq_true rfl) (by decide) ?_
            refine v_goto (pc := 62) (tgt := 22) K dX3_slice_62 (by decide) ?_
            have e := lfc h hk
            exact e
          clear h
          have h := h31
          refine v_if_eq (pc := 50) (tgt := 59) K dX3_slice_50 (by decide) (fun c32 => ?_) (fun c32 => ?_)
          · have h := it c32 h
            cases h
            exact hJ30
          · have h := ie c32 h
            refine v_aload0 (pc := 53) K dX3_slice_53 ?_
            refine v_iload4 (pc := 54) K dX3_slice_54 ?_
            obtain ⟨v33, h34, h⟩ := bd h
            refine v_cV1U (pc := 56)  K ca_yX3_include ml_RX3_122 (Nat.le_of_ble_eq_true rfl) rfl rfl (t_X3_include _ K.nt K.ad s15.2 s15.1 v33 h34) (Nat.le_of_ble_eq_true rfl) (by decide) (by decide) dX3_slice_56 ?_
            cases h
            exact hJ30
      · cases hF
        exact v_cS1X (pc := 12)  K ca_yX3_needWord ml_RX3_112 (t_X3_needWord _ K.nt K.ad s6 a2 (.error e12) _ h11) (Nat.le_of_ble_eq_true rfl) (by decide) (by decide) dX3_slice_12 hN rfl rfl
    · cases hF
      exact v_cV2X (pc := 8)  K ca_yX3_needBit ml_RX3_109 (Nat.le_of_ble_eq_true rfl) rfl rfl (t_X3_needBit _ K.nt K.ad s2 a0 a1 (.error e8) _ h7) (Nat.le_of_ble_eq_true rfl) (by decide) (by decide) dX3_slice_8 hN rfl rfl
  · cases hF
    exact v_cV1X (pc := 2)  K ca_yX3_needColumn ml_RX3_66 (Nat.le_of_ble_eq_true rfl) rfl rfl (t_X3_needColumn _ K.nt K.ad σ a0 (.error e4) _ h3) (Nat.le_of_ble_eq_true rfl) (by decide) (by decide) dX3_slice_2 hN rfl rfl
set_option maxRecDepth 100000 in
def c_X3_needMask (σ : St) (a0 : Int32) : Option (Except String Unit × St) :=
  (if a0 < 0 then some (.error "java/lang/IndexOutOfBoundsException", σ) else (if a0 < (8 : Int32) then some (.ok (), σ) else some (.error "java/lang/IndexOutOfBoundsException", σ)))
set_option maxHeartbeats 4000000 in
set_option maxRecDepth 100000 in
theorem t_X3_needMask (l : Launch) (hnt : l.stackTraces = false) {E : Ev} {base : Nat} (hE : Adr YC E base) (σ : St) (a0 : Int32) (r : Except String Unit) (σ' : St) (h : c_X3_needMask σ a0 = some (r, σ')) : Ctr l yX3_needMask cX3_needMask 1 none 6 100 YC E base [.int a0] σ (rU r) σ' := by
  unfold c_X3_needMask at h
  refine ofV 0 (by decide +kernel) rfl hE hnt (Nat.le_of_ble_eq_true rfl) rfl (fun M hN K => ?_)
  refine v_iload0 (pc := 0) K dX3_needMask_0 ?_
  refine v_if_lt (pc := 1) (tgt := 10) K dX3_needMask_1 (by decide) (fun c1 => ?_) (fun c1 => ?_)
  · have h := it c1 h
    cases h
    exact v_throw (pc := 10) (text := "no such mask") K hN tw_IndexOutOfBoundsException (by decide +kernel) dX3_needMask_10 dX3_needMask_13 dX3_needMask_14 dX3_needMask_17 dX3_needMask_20 (by decide) (by decide) rfl rfl
  · have h := ie c1 h
    refine v_iload0 (pc := 4) K dX3_needMask_4 ?_
    refine v_bipush (pc := 5) (v := 8) K dX3_needMask_5 (by decide) ?_
    refine v_icmp_lt (pc := 7) (tgt := 21) K dX3_needMask_7 (by decide) (fun c2 => ?_) (fun c2 => ?_)
    · have h := it c2 h
      cases h
      exact v_vret (pc := 21) K dX3_needMask_21 rfl rfl
    · have h := ie c2 h
      cases h
      exact v_throw (pc := 10) (text := "no such mask") K hN tw_IndexOutOfBoundsException (by decide +kernel) dX3_needMask_10 dX3_needMask_13 dX3_needMask_14 dX3_needMask_17 dX3_needMask_20 (by decide) (by decide) rfl rfl
set_option maxRecDepth 100000 in
def c_X3_includeEach (σ : St) (a0 : Int32) (a1 : Int32) (a2 : Int32) : Option (St) :=
  ((c_J9_min_7cf53 σ a0 (192 : Int32)).bind fun v1 => ((c_J9_max_7cf53 σ (1 : Int32) v1).bind fun v3 => ((lp 5000 (fun (s5 : Int32 × St) => (if a2 ≤ s5.1 then some (.inr s5.2) else ((c_X3_include s5.2 s5.1).bind fun v13 => some (.inl ((s5.1 + v3), v13))))) (a1, σ)).bind fun (r6 : St) => some r6)))
set_option maxHeartbeats 4000000 in
set_option maxRecDepth 100000 in
theorem t_X3_includeEach (l : Launch) (hnt : l.stackTraces = false) {E : Ev} {base : Nat} (hE : Adr YC E base) (σ : St) (a0 : Int32) (a1 : Int32) (a2 : Int32) (r : St) (h : c_X3_includeEach σ a0 a1 a2 = some r) : Ctr l yX3_includeEach cX3_includeEach 6 none 1 21 YC E base [.ref (E.2.2 0), .int a0, .int a1, .int a2] σ (.ok none) r := by
  unfold c_X3_includeEach at h
  refine ofV 2 (by decide +kernel) rfl hE hnt (Nat.le_of_ble_eq_true rfl) rfl (fun M hN K => ?_)
  refine v_ic1 (pc := 0) K dX3_includeEach_0 ?_
  refine v_iload1 (pc := 1) K dX3_includeEach_1 ?_
  refine v_sipush (pc := 2) (v := 192) K dX3_includeEach_2 (by decide) ?_
  obtain ⟨v1, h2, h⟩ := bd h
  refine v_cS2I (pc := 5)  K ca_yJ9_min_7cf53 ml_RX3_335 (t_J9_min_7cf53 _ K.nt K.ad σ a0 (192 : Int32) v1 h2) (Nat.le_of_ble_eq_true rfl) (by decide) (by decide) dX3_includeEach_5 ?_
  obtain ⟨v3, h4, h⟩ := bd h
  refine v_cS2I (pc := 8)  K ca_yJ9_max_7cf53 ml_RX3_205 (t_J9_max_7cf53 _ K.nt K.ad σ (1 : Int32) v1 v3 h4) (Nat.le_of_ble_eq_true rfl) (by decide) (by decide) dX3_includeEach_8 ?_
  refine v_istore4 (pc := 11) K dX3_includeEach_11 rfl (Nat.le_of_ble_eq_true rfl) ?_
  refine v_iload2 (pc := 13) K dX3_includeEach_13 ?_
  refine v_istore5 (pc := 14) K dX3_includeEach_14 rfl (Nat.le_of_ble_eq_true rfl) ?_
  obtain ⟨r6, h8, h⟩ := bd h
  have hJ7 : V (mkX M YC E base 6 (.ok none) r) r6 38 [none, none, none, none, none, none] [] := by
    cases h
    exact v_vret (pc := 38) K dX3_includeEach_38 rfl rfl
  clear h
  refine v_fg [true, false, false, true, true, true] ?_
  have hL15 := lpv h8 (fun s5 : Int32 × St => V (mkX M YC E base 6 (.ok none) r) s5.2 16 [some (.ref (E.2.2 0)), none, none, some (.int a2), some (.int v3), some (.int s5.1)] [])
  refine hL15 (fun s5 o h hk => ?_)
  refine v_iload5 (pc := 16) K dX3_includeEach_16 ?_
  refine v_iload3 (pc := 18) K dX3_includeEach_18 ?_
  refine v_icmp_ge (pc := 19) (tgt := 38) K dX3_includeEach_19 (by decide) (fun c12 => ?_) (fun c12 => ?_)
  · have h := it c12 h
    have e := lx h hk
    cases e
    exact v_fg [false, true, true, false, false, false] hJ7
  · have h := ie c12 h
    refine v_aload0 (pc := 22) K dX3_includeEach_22 ?_
    refine v_iload5 (pc := 23) K dX3_includeEach_23 ?_
    obtain ⟨v13, h14, h⟩ := bd h
    refine v_cV1U (pc := 25)  K ca_yX3_include ml_RX3_122 (Nat.le_of_ble_eq_true rfl) rfl rfl (t_X3_include _ K.nt K.ad s5.2 s5.1 v13 h14) (Nat.le_of_ble_eq_true rfl) (by decide) (by decide) dX3_includeEach_25 ?_
    refine v_iload5 (pc := 28) K dX3_includeEach_28 ?_
    refine v_iload4 (pc := 30) K dX3_includeEach_30 ?_
    refine v_iadd (pc := 32) K dX3_includeEach_32 ?_
    refine v_istore5 (pc := 33) K dX3_includeEach_33 rfl (Nat.le_of_ble_eq_true rfl) ?_
    refine v_goto (pc := 35) (tgt := 16) K dX3_includeEach_35 (by decide) ?_
    have e := lfc h hk
    exact e
set_option maxRecDepth 100000 in
def c_X3_mask (σ : St) (a0 : Int32) (a1 : Int32) (a2 : Int32) (a3 : Int32) : Option (Except String Int32 × St) :=
  (xB (c_X3_needMask σ a0) fun _ s2 => ((if a1 < 0 then some (0 : Int32) else (if (3 : Int32) < a1 then some (0 : Int32) else some (1 : Int32))).bind fun (t5 : Int32) => (xB (c_X3_needArgument s2 t5) fun _ s11 => ((if a1 = (2 : Int32) then (if a2 < 0 then some (0 : Int32) else (if a3 < a2 then some (0 : Int32) else (if s11.1 1 0 < a3 then some (0 : Int32) else some (1 : Int32)))) else some (1 : Int32)).bind fun (t14 : Int32) => (xB (c_X3_needArgument s11 t14) fun _ s22 => ((if a1 = (3 : Int32) then (if a2 < (1 : Int32) then some (0 : Int32) else (if a3 < 0 then some (0 : Int32) else (if a2 ≤ a3 then some (0 : Int32) else some (1 : Int32)))) else some (1 : Int32)).bind fun (t25 : Int32) => (xB (c_X3_needArgument s22 t25) fun _ s33 => ((c_X3_begin s33).bind fun v36 => ((if a1 = 0 then ((c_X3_includeEach v36 (1 : Int32) (0 : Int32) (v36.1 1 0)).bind fun v48 => some v48) else (if a1 = (2 : Int32) then ((c_X3_includeEach v36 (1 : Int32) a2 a3).bind fun v46 => some v46) else (if a1 = (3 : Int32) then ((c_X3_includeEach v36 a2 a3 (v36.1 1 0)).bind fun v44 => some v44) else some v36))).bind fun (t38 : St) => ((c_X3_become t38 a0).bind fun v50 => some (.ok v50.1, v50.2)))))))))))
set_option maxHeartbeats 4000000 in
set_option maxRecDepth 100000 in
theorem t_X3_mask (l : Launch) (hnt : l.stackTraces = false) {E : Ev} {base : Nat} (hE : Adr YC E base) (σ : St) (a0 : Int32) (a1 : Int32) (a2 : Int32) (a3 : Int32) (r : Except String Int32) (σ' : St) (h : c_X3_mask σ a0 a1 a2 a3 = some (r, σ')) : Ctr l yX3_mask cX3_mask 5 (some .int) 7 120 YC E base [.ref (E.2.2 0), .int a0, .int a1, .int a2, .int a3] σ (rI r) σ' := by
  unfold c_X3_mask at h
  refine ofV 0 (by decide +kernel) rfl hE hnt (Nat.le_of_ble_eq_true rfl) rfl (fun M hN K => ?_)
  refine v_iload1 (pc := 0) K dX3_mask_0 ?_
  rcases xb h with ⟨v1, s2, h3, h⟩ | ⟨e4, s2, h3, hF⟩
  · refine v_cS1U (pc := 1) K ca_yX3_needMask ml_RX3_125 (t_X3_needMask _ K.nt K.ad σ a0 (.ok v1) s2 h3) (Nat.le_of_ble_eq_true rfl) (by decide) (by decide) dX3_mask_1 ?_
    refine v_iload2 (pc := 4) K dX3_mask_4 ?_
    obtain ⟨t5, h7, h⟩ := bd h
    have hJ6 : V (mkX M YC E base 5 (rI r) σ') s2 18 [some (.ref (E.2.2 0)), some (.int a0), some (.int a1), some (.int a2), some (.int a3)] [.int t5] := by
      rcases xb h with ⟨v10, s11, h12, h⟩ | ⟨e13, s11, h12, hF⟩
      · refine v_cS1U (pc := 18) K ca_yX3_needArgument ml_RX3_73 (t_X3_needArgument _ K.nt K.ad s2 t5 (.ok v10) s11 h12) (Nat.le_of_ble_eq_true rfl) (by decide) (by decide) dX3_mask_18 ?_
        refine v_iload2 (pc := 21) K dX3_mask_21 ?_
        refine v_ic2 (pc := 22) K dX3_mask_22 ?_
        obtain ⟨t14, h16, h⟩ := bd h
        have hJ15 : V (mkX M YC E base 5 (rI r) σ') s11 53 [some (.ref (E.2.2 0)), some (.int a0), some (.int a1), some (.int a2), some (.int a3)] [.int t14] := by
          rcases xb h with ⟨v21, s22, h23, h⟩ | ⟨e24, s22, h23, hF⟩
          · refine v_cS1U (pc := 53) K ca_yX3_needArgument ml_RX3_73 (t_X3_needArgument _ K.nt K.ad s11 t14 (.ok v21) s22 h23) (Nat.le_of_ble_eq_true rfl) (by decide) (by decide) dX3_mask_53 ?_
            refine v_iload2 (pc := 56) K dX3_mask_56 ?_
            refine v_ic3 (pc := 57) K dX3_mask_57 ?_
            obtain ⟨t25, h27, h⟩ := bd h
            have hJ26 : V (mkX M YC E base 5 (rI r) σ') s22 82 [some (.ref (E.2.2 0)), some (.int a0), some (.int a1), some (.int a2), some (.int a3)] [.int t25] := by
              rcases xb h with ⟨v32, s33, h34, h⟩ | ⟨e35, s33, h34, hF⟩
              · refine v_cS1U (pc := 82) K ca_yX3_needArgument ml_RX3_73 (t_X3_needArgument _ K.nt K.ad s22 t25 (.ok v32) s33 h34) (Nat.le_of_ble_eq_true rfl) (by decide) (by decide) dX3_mask_82 ?_
                refine v_aload0 (pc := 85) K dX3_mask_85 ?_
                obtain ⟨v36, h37, h⟩ := bd h
                refine v_cV0U (pc := 86)  K ca_yX3_begin ml_RX3_115 (Nat.le_of_ble_eq_true rfl) rfl rfl (t_X3_begin _ K.nt K.ad s33 v36 h37) (Nat.le_of_ble_eq_true rfl) (by decide) (by decide) dX3_mask_86 ?_
                refine v_iload2 (pc := 89) K dX3_mask_89 ?_
                obtain ⟨t38, h40, h⟩ := bd h
                have hJ39 : V (mkX M YC E base 5 (rI r) σ') t38 144 [some (.ref (E.2.2 0)), some (.int a0), none, none, none] [] := by
                  refine v_aload0 (pc := 144) K dX3_mask_144 ?_
                  refine v_iload1 (pc := 145) K dX3_mask_145 ?_
                  obtain ⟨v50, h51, h⟩ := bd h
                  refine v_cV1I (pc := 146)  K ca_yX3_become ml_RX3_131 (Nat.le_of_ble_eq_true rfl) rfl rfl (t_X3_become _ K.nt K.ad t38 a0 v50 h51) (Nat.le_of_ble_eq_true rfl) (by decide) (by decide) dX3_mask_146 ?_
                  cases h
                  exact v_iret (pc := 149) K dX3_mask_149 rfl rfl
                clear h
                have h := h40
                refine v_if_ne (pc := 90) (tgt := 109) K dX3_mask_90 (by decide) (fun c41 => ?_) (fun c41 => ?_)
                · have h := ie c41 h
                  refine v_iload2 (pc := 109) K dX3_mask_109 ?_
                  refine v_ic2 (pc := 110) K dX3_mask_110 ?_
                  refine v_icmp_ne (pc := 111) (tgt := 125) K dX3_mask_111 (by decide) (fun c42 => ?_) (fun c42 => ?_)
                  · have h := ie c42 h
                    refine v_iload2 (pc := 125) K dX3_mask_125 ?_
                    refine v_ic3 (pc := 126) K dX3_mask_126 ?_
                    refine v_icmp_ne (pc := 127) (tgt := 144) K dX3_mask_127 (by decide) (fun c43 => ?_) (fun c43 => ?_)
                    · have h := ie c43 h
                      cases h
                      exact (v_fg [true, true, false, false, false] hJ39)
                    · have h := it c43 h
                      refine v_aload0 (pc := 130) K dX3_mask_130 ?_
                      refine v_iload3 (pc := 131) K dX3_mask_131 ?_
                      refine v_iload4 (pc := 132) K dX3_mask_132 ?_
                      refine v_aload0 (pc := 134) K dX3_mask_134 ?_
                      refine v_getR (pc := 135) K fl_RX3_14 dX3_mask_135 (Nat.le_of_ble_eq_true rfl) rfl rfl ?_
                      refine v_getI (pc := 138) K fl_RX3_76 dX3_mask_138 (Nat.le_of_ble_eq_true rfl) rfl rfl ?_
                      obtain ⟨v44, h45, h⟩ := bd h
                      refine v_cV3U (pc := 141)  K ca_yX3_includeEach ml_RX3_128 (Nat.le_of_ble_eq_true rfl) rfl rfl (t_X3_includeEach _ K.nt K.ad v36 a2 a3 (v36.1 1 0) v44 h45) (Nat.le_of_ble_eq_true rfl) (by decide) (by decide) dX3_mask_141 ?_
                      cases h
                      exact (v_fg [true, true, false, false, false] hJ39)
                  · have h := it c42 h
                    refine v_aload0 (pc := 114) K dX3_mask_114 ?_
                    refine v_ic1 (pc := 115) K dX3_mask_115 ?_
                    refine v_iload3 (pc := 116) K dX3_mask_116 ?_
                    refine v_iload4 (pc := 117) K dX3_mask_117 ?_
                    obtain ⟨v46, h47, h⟩ := bd h
                    refine v_cV3U (pc := 119)  K ca_yX3_includeEach ml_RX3_128 (Nat.le_of_ble_eq_true rfl) rfl rfl (t_X3_includeEach _ K.nt K.ad v36 (1 : Int32) a2 a3 v46 h47) (Nat.le_of_ble_eq_true rfl) (by decide) (by decide) dX3_mask_119 ?_
                    refine v_goto (pc := 122) (tgt := 144) K dX3_mask_122 (by decide) ?_
                    cases h
                    exact (v_fg [true, true, false, false, false] hJ39)
                · have h := it c41 h
                  refine v_aload0 (pc := 93) K dX3_mask_93 ?_
                  refine v_ic1 (pc := 94) K dX3_mask_94 ?_
                  refine v_ic0 (pc := 95) K dX3_mask_95 ?_
                  refine v_aload0 (pc := 96) K dX3_mask_96 ?_
                  refine v_getR (pc := 97) K fl_RX3_14 dX3_mask_97 (Nat.le_of_ble_eq_true rfl) rfl rfl ?_
                  refine v_getI (pc := 100) K fl_RX3_76 dX3_mask_100 (Nat.le_of_ble_eq_true rfl) rfl rfl ?_
                  obtain ⟨v48, h49, h⟩ := bd h
                  refine v_cV3U (pc := 103)  K ca_yX3_includeEach ml_RX3_128 (Nat.le_of_ble_eq_true rfl) rfl rfl (t_X3_includeEach _ K.nt K.ad v36 (1 : Int32) (0 : Int32) (v36.1 1 0) v48 h49) (Nat.le_of_ble_eq_true rfl) (by decide) (by decide) dX3_mask_103 ?_
                  refine v_goto (pc := 106) (tgt := 144) K dX3_mask_106 (by decide) ?_
                  cases h
                  exact (v_fg [true, true, false, false, false] hJ39)
              · cases hF
                exact v_cS1X (pc := 82)  K ca_yX3_needArgument ml_RX3_73 (t_X3_needArgument _ K.nt K.ad s22 t25 (.error e35) _ h34) (Nat.le_of_ble_eq_true rfl) (by decide) (by decide) dX3_mask_82 hN rfl rfl
            clear h
            have h := h27
            refine v_icmp_ne (pc := 58) (tgt := 77) K dX3_mask_58 (by decide) (fun c28 => ?_) (fun c28 => ?_)
            · have h := ie c28 h
              refine v_ic1 (pc := 77) K dX3_mask_77 ?_
              refine v_goto (pc := 78) (tgt := 82) K dX3_mask_78 (by decide) ?_
              cases h
              exact hJ26
            · have h := it c28 h
              refine v_iload3 (pc := 61) K dX3_mask_61 ?_
              refine v_ic1 (pc := 62) K dX3_mask_62 ?_
              refine v_icmp_lt (pc := 63) (tgt := 81) K dX3_mask_63 (by decide) (fun c29 => ?_) (fun c29 => ?_)
              · have h := it c29 h
                refine v_ic0 (pc := 81) K dX3_mask_81 ?_
                cases h
                exact hJ26
              · have h := ie c29 h
                refine v_iload4 (pc := 66) K dX3_mask_66 ?_
                refine v_if_lt (pc := 68) (tgt := 81) K dX3_mask_68 (by decide) (fun c30 => ?_) (fun c30 => ?_)
                · have h := it c30 h
                  refine v_ic0 (pc := 81) K dX3_mask_81 ?_
                  cases h
                  exact hJ26
                · have h := ie c30 h
                  refine v_iload4 (pc := 71) K dX3_mask_71 ?_
                  refine v_iload3 (pc := 73) K dX3_mask_73 ?_
                  refine v_icmp_ge (pc := 74) (tgt := 81) K dX3_mask_74 (by decide) (fun c31 => ?_) (fun c31 => ?_)
                  · have h := it c31 h
                    refine v_ic0 (pc := 81) K dX3_mask_81 ?_
                    cases h
                    exact hJ26
                  · have h := ie c31 h
                    refine v_ic1 (pc := 77) K dX3_mask_77 ?_
                    refine v_goto (pc := 78) (tgt := 82) K dX3_mask_78 (by decide) ?_
                    cases h
                    exact hJ26
          · cases hF
            exact v_cS1X (pc := 53)  K ca_yX3_needArgument ml_RX3_73 (t_X3_needArgument _ K.nt K.ad s11 t14 (.error e24) _ h23) (Nat.le_of_ble_eq_true rfl) (by decide) (by decide) dX3_mask_53 hN rfl rfl
        clear h
        have h := h16
        refine v_icmp_ne (pc := 23) (tgt := 48) K dX3_mask_23 (by decide) (fun c17 => ?_) (fun c17 => ?_)
        · have h := ie c17 h
          refine v_ic1 (pc := 48) K dX3_mask_48 ?_
          refine v_goto (pc := 49) (tgt := 53) K dX3_mask_49 (by decide) ?_
          cases h
          exact hJ15
        · have h := it c17 h
          refine v_iload3 (pc := 26) K dX3_mask_26 ?_
          refine v_if_lt (pc := 27) (tgt := 52) K dX3_mask_27 (by decide) (fun c18 => ?_) (fun c18 => ?_)
          · have h := it c18 h
            refine v_ic0 (pc := 52) K dX3_mask_52 ?_
            cases h
            exact hJ15
          · have h := ie c18 h
            refine v_iload3 (pc := 30) K dX3_mask_30 ?_
            refine v_iload4 (pc := 31) K dX3_mask_31 ?_
            refine v_icmp_gt (pc := 33) (tgt := 52) K dX3_mask_33 (by decide) (fun c19 => ?_) (fun c19 => ?_)
            · have h := it c19 h
              refine v_ic0 (pc := 52) K dX3_mask_52 ?_
              cases h
              exact hJ15
            · have h := ie c19 h
              refine v_iload4 (pc := 36) K dX3_mask_36 ?_
              refine v_aload0 (pc := 38) K dX3_mask_38 ?_
              refine v_getR (pc := 39) K fl_RX3_14 dX3_mask_39 (Nat.le_of_ble_eq_true rfl) rfl rfl ?_
              refine v_getI (pc := 42) K fl_RX3_76 dX3_mask_42 (Nat.le_of_ble_eq_true rfl) rfl rfl ?_
              refine v_icmp_gt (pc := 45) (tgt := 52) K dX3_mask_45 (by decide) (fun c20 => ?_) (fun c20 => ?_)
              · have h := it c20 h
                refine v_ic0 (pc := 52) K dX3_mask_52 ?_
                cases h
                exact hJ15
              · have h := ie c20 h
                refine v_ic1 (pc := 48) K dX3_mask_48 ?_
                refine v_goto (pc := 49) (tgt := 53) K dX3_mask_49 (by decide) ?_
                cases h
                exact hJ15
      · cases hF
        exact v_cS1X (pc := 18)  K ca_yX3_needArgument ml_RX3_73 (t_X3_needArgument _ K.nt K.ad s2 t5 (.error e13) _ h12) (Nat.le_of_ble_eq_true rfl) (by decide) (by decide) dX3_mask_18 hN rfl rfl
    clear h
    have h := h7
    refine v_if_lt (pc := 5) (tgt := 17) K dX3_mask_5 (by decide) (fun c8 => ?_) (fun c8 => ?_)
    · have h := it c8 h
      refine v_ic0 (pc := 17) K dX3_mask_17 ?_
      cases h
      exact hJ6
    · have h := ie c8 h
      refine v_iload2 (pc := 8) K dX3_mask_8 ?_
      refine v_ic3 (pc := 9) K dX3_mask_9 ?_
      refine v_icmp_gt (pc := 10) (tgt := 17) K dX3_mask_10 (by decide) (fun c9 => ?_) (fun c9 => ?_)
      · have h := it c9 h
        refine v_ic0 (pc := 17) K dX3_mask_17 ?_
        cases h
        exact hJ6
      · have h := ie c9 h
        refine v_ic1 (pc := 13) K dX3_mask_13 ?_
        refine v_goto (pc := 14) (tgt := 18) K dX3_mask_14 (by decide) ?_
        cases h
        exact hJ6
  · cases hF
    exact v_cS1X (pc := 1)  K ca_yX3_needMask ml_RX3_125 (t_X3_needMask _ K.nt K.ad σ a0 (.error e4) _ h3) (Nat.le_of_ble_eq_true rfl) (by decide) (by decide) dX3_mask_1 hN rfl rfl
