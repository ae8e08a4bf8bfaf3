set_option maxRecDepth 100000 in
def c_X1_rowsOfWord (σ : St) (a0 : Int32) : Option (Int64) :=
  (if 0 < (σ.1 1 0 - (a0 * (64 : Int32))) then ((if (σ.1 1 0 - (a0 * (64 : Int32))) < (64 : Int32) then some (((1 : Int64) <<< (((σ.1 1 0 - (a0 * (64 : Int32)))).toInt64 &&& 63)) - (1 : Int64)) else some ((-1) : Int64)).bind fun (t2 : Int64) => some t2) else some (0 : Int64))
set_option maxHeartbeats 4000000 in
set_option maxRecDepth 100000 in
theorem t_X1_rowsOfWord (l : Launch) (hnt : l.stackTraces = false) {E : Ev} {base : Nat} (hE : Adr YC E base) (σ : St) (a0 : Int32) (r : Int64) (h : c_X1_rowsOfWord σ a0 = some r) : Ctr l yX1_rowsOfWord cX1_rowsOfWord 3 (some .long) 0 0 YC E base [.ref (E.2.2 1), .int a0] σ (.ok (some (.long r))) σ := by
  unfold c_X1_rowsOfWord at h
  refine ofV 1 (by decide +kernel) rfl hE hnt (Nat.le_of_ble_eq_true rfl) rfl (fun M hN K => ?_)
  refine v_aload0 (pc := 0) K dX1_rowsOfWord_0 ?_
  refine v_getI (pc := 1) K fl_RX1_23 dX1_rowsOfWord_1 (Nat.le_of_ble_eq_true rfl) rfl rfl ?_
  refine v_iload1 (pc := 4) K dX1_rowsOfWord_4 ?_
  refine v_bipush (pc := 5) (v := 64) K dX1_rowsOfWord_5 (by decide) ?_
  refine v_imul (pc := 7) K dX1_rowsOfWord_7 ?_
  refine v_isub (pc := 8) K dX1_rowsOfWord_8 ?_
  refine v_istore2 (pc := 9) K dX1_rowsOfWord_9 rfl (Nat.le_of_ble_eq_true rfl) ?_
  refine v_iload2 (pc := 10) K dX1_rowsOfWord_10 ?_
  refine v_if_gt (pc := 11) (tgt := 16) K dX1_rowsOfWord_11 (by decide) (fun c1 => ?_) (fun c1 => ?_)
  · have h := it c1 h
    refine v_iload2 (pc := 16) K dX1_rowsOfWord_16 ?_
    refine v_bipush (pc := 17) (v := 64) K dX1_rowsOfWord_17 (by decide) ?_
    obtain ⟨t2, h4, h⟩ := bd h
    have hJ3 : V (mkX M YC E base 3 (.ok (some (.long r))) σ) σ 33 [none, none, none] [.long t2] := by
      cases h
      exact v_lret (pc := 33) K dX1_rowsOfWord_33 rfl rfl
    clear h
    have h := h4
    refine v_icmp_lt (pc := 19) (tgt := 28) K dX1_rowsOfWord_19 (by decide) (fun c5 => ?_) (fun c5 => ?_)
    · have h := it c5 h
      refine v_lc1 (pc := 28) K dX1_rowsOfWord_28 ?_
      refine v_iload2 (pc := 29) K dX1_rowsOfWord_29 ?_
      refine v_lshl (pc := 30) K dX1_rowsOfWord_30 ?_
      refine v_lc1 (pc := 31) K dX1_rowsOfWord_31 ?_
      refine v_lsub (pc := 32) K dX1_rowsOfWord_32 ?_
      cases h
      exact (v_fg [false, false, false] hJ3)
    · have h := ie c5 h
      refine v_ldc2 (pc := 22) K dX1_rowsOfWord_22 cl_RX1_64 ?_
      refine v_goto (pc := 25) (tgt := 33) K dX1_rowsOfWord_25 (by decide) ?_
      cases h
      exact (v_fg [false, false, false] hJ3)
  · have h := ie c1 h
    refine v_lc0 (pc := 14) K dX1_rowsOfWord_14 ?_
    cases h
    exact v_lret (pc := 15) K dX1_rowsOfWord_15 rfl rfl
set_option maxRecDepth 100000 in
def c_X3_bits (σ : St) (a0 : Int32) (a1 : Int32) (a2 : Int64) : Option (Except String Int32 × St) :=
  (xB (c_X3_needMask σ a0) fun _ s2 => (xB (c_X3_needWord s2 a1) fun _ s6 => ((ix a0 8).bind fun j9 => ((c_X1_rowsOfWord s6 a1).bind fun v11 => ((ix a1 3).bind fun j13 => ((c_X1_maskCount (sL s6 (11 + j9) j13 (a2 &&& v11)) a0).bind fun v15 => some (.ok v15, (sL s6 (11 + j9) j13 (a2 &&& v11)))))))))
set_option maxHeartbeats 4000000 in
set_option maxRecDepth 100000 in
theorem t_X3_bits (l : Launch) (hnt : l.stackTraces = false) {E : Ev} {base : Nat} (hE : Adr YC E base) (σ : St) (a0 : Int32) (a1 : Int32) (a2 : Int64) (r : Except String Int32) (σ' : St) (h : c_X3_bits σ a0 a1 a2 = some (r, σ')) : Ctr l yX3_bits cX3_bits 5 (some .int) 7 120 YC E base [.ref (E.2.2 0), .int a0, .int a1, .long a2] σ (rI r) σ' := by
  unfold c_X3_bits at h
  refine ofV 0 (by decide +kernel) rfl hE hnt (Nat.le_of_ble_eq_true rfl) rfl (fun M hN K => ?_)
  refine v_iload1 (pc := 0) K dX3_bits_0 ?_
  rcases xb h with ⟨v1, s2, h3, h⟩ | ⟨e4, s2, h3, hF⟩
  · refine v_cS1U (pc := 1) K ca_yX3_needMask ml_RX3_125 (t_X3_needMask _ K.nt K.ad σ a0 (.ok v1) s2 h3) (Nat.le_of_ble_eq_true rfl) (by decide) (by decide) dX3_bits_1 ?_
    refine v_iload2 (pc := 4) K dX3_bits_4 ?_
    rcases xb h with ⟨v5, s6, h7, h⟩ | ⟨e8, s6, h7, hF⟩
    · refine v_cS1U (pc := 5) K ca_yX3_needWord ml_RX3_112 (t_X3_needWord _ K.nt K.ad s2 a1 (.ok v5) s6 h7) (Nat.le_of_ble_eq_true rfl) (by decide) (by decide) dX3_bits_5 ?_
      refine v_aload0 (pc := 8) K dX3_bits_8 ?_
      refine v_getR (pc := 9) K fl_RX3_14 dX3_bits_9 (Nat.le_of_ble_eq_true rfl) rfl rfl ?_
      refine v_getR (pc := 12) K fl_RX3_134 dX3_bits_12 (Nat.le_of_ble_eq_true rfl) rfl rfl ?_
      refine v_iload1 (pc := 15) K dX3_bits_15 ?_
      obtain ⟨j9, h10, h⟩ := bd h
      refine v_aal (pc := 16) (b := 11) K dX3_bits_16 (Nat.le_of_ble_eq_true rfl) rfl rfl h10 ?_
      refine v_iload2 (pc := 17) K dX3_bits_17 ?_
      refine v_lload3 (pc := 18) K dX3_bits_18 ?_
      refine v_aload0 (pc := 19) K dX3_bits_19 ?_
      refine v_getR (pc := 20) K fl_RX3_14 dX3_bits_20 (Nat.le_of_ble_eq_true rfl) rfl rfl ?_
      refine v_iload2 (pc := 23) K dX3_bits_23 ?_
      obtain ⟨v11, h12, h⟩ := bd h
      refine v_cV1L (pc := 24)  K ca_yX1_rowsOfWord ml_RX3_137 (Nat.le_of_ble_eq_true rfl) rfl rfl (t_X1_rowsOfWord _ K.nt K.ad s6 a1 v11 h12) (Nat.le_of_ble_eq_true rfl) (by decide) (by decide) dX3_bits_24 ?_
      refine v_land (pc := 27) K dX3_bits_27 ?_
      obtain ⟨j13, h14, h⟩ := bd h
      refine v_lastore (pc := 28) K dX3_bits_28 (mskC' (ix_lt h10)) (mskC (ix_lt h10)) h14 ?_
      refine v_aload0 (pc := 29) K dX3_bits_29 ?_
      refine v_getR (pc := 30) K fl_RX3_14 dX3_bits_30 (Nat.le_of_ble_eq_true rfl) rfl rfl ?_
      refine v_iload1 (pc := 33) K dX3_bits_33 ?_
      obtain ⟨v15, h16, h⟩ := bd h
      refine v_cV1I (pc := 34)  K ca_yX1_maskCount ml_RX3_141 (Nat.le_of_ble_eq_true rfl) rfl rfl (t_X1_maskCount _ K.nt K.ad (sL s6 (11 + j9) j13 (a2 &&& v11)) a0 v15 h16) (Nat.le_of_ble_eq_true rfl) (by decide) (by decide) dX3_bits_34 ?_
      cases h
      exact v_iret (pc := 37) K dX3_bits_37 rfl rfl
    · cases hF
      exact v_cS1X (pc := 5)  K ca_yX3_needWord ml_RX3_112 (t_X3_needWord _ K.nt K.ad s2 a1 (.error e8) _ h7) (Nat.le_of_ble_eq_true rfl) (by decide) (by decide) dX3_bits_5 hN rfl rfl
  · cases hF
    exact v_cS1X (pc := 1)  K ca_yX3_needMask ml_RX3_125 (t_X3_needMask _ K.nt K.ad σ a0 (.error e4) _ h3) (Nat.le_of_ble_eq_true rfl) (by decide) (by decide) dX3_bits_1 hN rfl rfl
set_option maxRecDepth 100000 in
def c_X3_joined (σ : St) (a0 : Int64) (a1 : Int64) (a2 : Int32) : Option (Int64) :=
  (if a2 = 0 then some (a0 &&& a1) else (if a2 = 1 then some (a0 ||| a1) else (if a2 = 2 then some (a0 ^^^ a1) else some (a0 &&& (a1 ^^^ ((-1) : Int64))))))
set_option maxHeartbeats 4000000 in
set_option maxRecDepth 100000 in
theorem t_X3_joined (l : Launch) (hnt : l.stackTraces = false) {E : Ev} {base : Nat} (hE : Adr YC E base) (σ : St) (a0 : Int64) (a1 : Int64) (a2 : Int32) (r : Int64) (h : c_X3_joined σ a0 a1 a2 = some r) : Ctr l yX3_joined cX3_joined 5 (some .long) 0 0 YC E base [.long a0, .long a1, .int a2] σ (.ok (some (.long r))) σ := by
  unfold c_X3_joined at h
  refine ofV 0 (by decide +kernel) rfl hE hnt (Nat.le_of_ble_eq_true rfl) rfl (fun M hN K => ?_)
  refine v_iload4 (pc := 0) K dX3_joined_0 ?_
  by_cases c1 : a2 = 0
  · have h := it c1 h
    refine v_tsIn (pc := 2) (k := 0) (tgt := 28) K dX3_joined_2 (by rw [c1]; rfl) (by decide) rfl (by decide) ?_
    refine v_lload0 (pc := 28) K dX3_joined_28 ?_
    refine v_lload2 (pc := 29) K dX3_joined_29 ?_
    refine v_land (pc := 30) K dX3_joined_30 ?_
    cases h
    exact v_lret (pc := 31) K dX3_joined_31 rfl rfl
  have h := ie c1 h
  by_cases c2 : a2 = 1
  · have h := it c2 h
    refine v_tsIn (pc := 2) (k := 1) (tgt := 32) K dX3_joined_2 (by rw [c2]; rfl) (by decide) rfl (by decide) ?_
    refine v_lload0 (pc := 32) K dX3_joined_32 ?_
    refine v_lload2 (pc := 33) K dX3_joined_33 ?_
    refine v_lor (pc := 34) K dX3_joined_34 ?_
    cases h
    exact v_lret (pc := 35) K dX3_joined_35 rfl rfl
  have h := ie c2 h
  by_cases c3 : a2 = 2
  · have h := it c3 h
    refine v_tsIn (pc := 2) (k := 2) (tgt := 36) K dX3_joined_2 (by rw [c3]; rfl) (by decide) rfl (by decide) ?_
    refine v_lload0 (pc := 36) K dX3_joined_36 ?_
    refine v_lload2 (pc := 37) K dX3_joined_37 ?_
    refine v_lxor (pc := 38) K dX3_joined_38 ?_
    cases h
    exact v_lret (pc := 39) K dX3_joined_39 rfl rfl
  have h := ie c3 h
  refine v_tsOut (pc := 2) (tgt := 40) K dX3_joined_2 (ts_out 3 (by decide) (fun k hk => by match k, hk with | 0, _ => exact fun q => c1 q | 1, _ => exact fun q => c2 q | 2, _ => exact fun q => c3 q)) (by decide) ?_
  refine v_lload0 (pc := 40) K dX3_joined_40 ?_
  refine v_lload2 (pc := 41) K dX3_joined_41 ?_
  refine v_ldc2 (pc := 42) K dX3_joined_42 cl_RX3_148 ?_
  refine v_lxor (pc := 45) K dX3_joined_45 ?_
  refine v_land (pc := 46) K dX3_joined_46 ?_
  cases h
  exact v_lret (pc := 47) K dX3_joined_47 rfl rfl
set_option maxRecDepth 100000 in
def c_X3_join (σ : St) (a0 : Int32) (a1 : Int32) (a2 : Int32) (a3 : Int32) : Option (Except String Int32 × St) :=
  (xB (c_X3_needMask σ a0) fun _ s2 => (xB (c_X3_needMask s2 a1) fun _ s6 => (xB (c_X3_needMask s6 a2) fun _ s10 => ((if a3 < 0 then some (0 : Int32) else (if (3 : Int32) < a3 then some (0 : Int32) else some (1 : Int32))).bind fun (t13 : Int32) => (xB (c_X3_needArgument s10 t13) fun _ s19 => ((lp 5000 (fun (s22 : Int32 × St) => (if (3 : Int32) ≤ s22.1 then some (.inr s22.2) else ((ix a1 8).bind fun j30 => ((ix s22.1 3).bind fun j32 => ((ix a2 8).bind fun j34 => ((ix s22.1 3).bind fun j36 => ((c_X3_joined s22.2 (s22.2.2 (11 + j30) j32) (s22.2.2 (11 + j34) j36) a3).bind fun v38 => ((ix s22.1 3).bind fun j40 => some (.inl ((s22.1 + 1), (sL s22.2 26 j40 v38))))))))))) ((0 : Int32), s19)).bind fun (r23 : St) => ((c_X3_become r23 a0).bind fun v42 => some (.ok v42.1, v42.2))))))))
set_option maxHeartbeats 4000000 in
set_option maxRecDepth 100000 in
theorem t_X3_join (l : Launch) (hnt : l.stackTraces = false) {E : Ev} {base : Nat} (hE : Adr YC E base) (σ : St) (a0 : Int32) (a1 : Int32) (a2 : Int32) (a3 : Int32) (r : Except String Int32) (σ' : St) (h : c_X3_join σ a0 a1 a2 a3 = some (r, σ')) : Ctr l yX3_join cX3_join 6 (some .int) 7 120 YC E base [.ref (E.2.2 0), .int a0, .int a1, .int a2, .int a3] σ (rI r) σ' := by
  unfold c_X3_join at h
  refine ofV 1 (by decide +kernel) rfl hE hnt (Nat.le_of_ble_eq_true rfl) rfl (fun M hN K => ?_)
  refine v_iload1 (pc := 0) K dX3_join_0 ?_
  rcases xb h with ⟨v1, s2, h3, h⟩ | ⟨e4, s2, h3, hF⟩
  · refine v_cS1U (pc := 1) K ca_yX3_needMask ml_RX3_125 (t_X3_needMask _ K.nt K.ad σ a0 (.ok v1) s2 h3) (Nat.le_of_ble_eq_true rfl) (by decide) (by decide) dX3_join_1 ?_
    refine v_iload2 (pc := 4) K dX3_join_4 ?_
    rcases xb h with ⟨v5, s6, h7, h⟩ | ⟨e8, s6, h7, hF⟩
    · refine v_cS1U (pc := 5) K ca_yX3_needMask ml_RX3_125 (t_X3_needMask _ K.nt K.ad s2 a1 (.ok v5) s6 h7) (Nat.le_of_ble_eq_true rfl) (by decide) (by decide) dX3_join_5 ?_
      refine v_iload3 (pc := 8) K dX3_join_8 ?_
      rcases xb h with ⟨v9, s10, h11, h⟩ | ⟨e12, s10, h11, hF⟩
      · refine v_cS1U (pc := 9) K ca_yX3_needMask ml_RX3_125 (t_X3_needMask _ K.nt K.ad s6 a2 (.ok v9) s10 h11) (Nat.le_of_ble_eq_true rfl) (by decide) (by decide) dX3_join_9 ?_
        refine v_iload4 (pc := 12) K dX3_join_12 ?_
        obtain ⟨t13, h15, h⟩ := bd h
        have hJ14 : V (mkX M YC E base 6 (rI r) σ') s10 28 [some (.ref (E.2.2 0)), some (.int a0), some (.int a1), some (.int a2), some (.int a3), none] [.int t13] := by
          rcases xb h with ⟨v18, s19, h20, h⟩ | ⟨e21, s19, h20, hF⟩
          · refine v_cS1U (pc := 28) K ca_yX3_needArgument ml_RX3_73 (t_X3_needArgument _ K.nt K.ad s10 t13 (.ok v18) s19 h20) (Nat.le_of_ble_eq_true rfl) (by decide) (by decide) dX3_join_28 ?_
            refine v_ic0 (pc := 31) K dX3_join_31 ?_
            refine v_istore5 (pc := 32) K dX3_join_32 rfl (Nat.le_of_ble_eq_true rfl) ?_
            obtain ⟨r23, h25, h⟩ := bd h
            have hJ24 : V (mkX M YC E base 6 (rI r) σ') r23 82 [some (.ref (E.2.2 0)), some (.int a0), none, none, none, none] [] := by
              refine v_aload0 (pc := 82) K dX3_join_82 ?_
              refine v_iload1 (pc := 83) K dX3_join_83 ?_
              obtain ⟨v42, h43, h⟩ := bd h
              refine v_cV1I (pc := 84)  K ca_yX3_become ml_RX3_131 (Nat.le_of_ble_eq_true rfl) rfl rfl (t_X3_become _ K.nt K.ad r23 a0 v42 h43) (Nat.le_of_ble_eq_true rfl) (by decide) (by decide) dX3_join_84 ?_
              cases h
              exact v_iret (pc := 87) K dX3_join_87 rfl rfl
            clear h
            have hL44 := lpv h25 (fun s22 : Int32 × St => V (mkX M YC E base 6 (rI r) σ') s22.2 34 [some (.ref (E.2.2 0)), some (.int a0), some (.int a1), some (.int a2), some (.int a3), some (.int s22.1)] [])
            refine hL44 (fun s22 o h hk => ?_)
            refine v_iload5 (pc := 34) K dX3_join_34 ?_
            refine v_ic3 (pc := 36) K dX3_join_36 ?_
            refine v_icmp_ge (pc := 37) (tgt := 82) K dX3_join_37 (by decide) (fun c29 => ?_) (fun c29 => ?_)
            · have h := it c29 h
              have e := lx h hk
              cases e
              exact v_fg [true, true, false, false, false, false] hJ24
            · have h := ie c29 h
              refine v_aload0 (pc := 40) K dX3_join_40 ?_
              refine v_getR (pc := 41) K fl_RX3_36 dX3_join_41 (Nat.le_of_ble_eq_true rfl) rfl rfl ?_
              refine v_iload5 (pc := 44) K dX3_join_44 ?_
              refine v_aload0 (pc := 46) K dX3_join_46 ?_
              refine v_getR (pc := 47) K fl_RX3_14 dX3_join_47 (Nat.le_of_ble_eq_true rfl) rfl rfl ?_
              refine v_getR (pc := 50) K fl_RX3_134 dX3_join_50 (Nat.le_of_ble_eq_true rfl) rfl rfl ?_
              refine v_iload2 (pc := 53) K dX3_join_53 ?_
              obtain ⟨j30, h31, h⟩ := bd h
              refine v_aal (pc := 54) (b := 11) K dX3_join_54 (Nat.le_of_ble_eq_true rfl) rfl rfl h31 ?_
              refine v_iload5 (pc := 55) K dX3_join_55 ?_
              obtain ⟨j32, h33, h⟩ := bd h
              refine v_laload (pc := 57) K dX3_join_57 (mskC' (ix_lt h31)) (mskC (ix_lt h31)) h33 ?_
              refine v_aload0 (pc := 58) K dX3_join_58 ?_
              refine v_getR (pc := 59) K fl_RX3_14 dX3_join_59 (Nat.le_of_ble_eq_true rfl) rfl rfl ?_
              refine v_getR (pc := 62) K fl_RX3_134 dX3_join_62 (Nat.le_of_ble_eq_true rfl) rfl rfl ?_
              refine v_iload3 (pc := 65) K dX3_join_65 ?_
              obtain ⟨j34, h35, h⟩ := bd h
              refine v_aal (pc := 66) (b := 11) K dX3_join_66 (Nat.le_of_ble_eq_true rfl) rfl rfl h35 ?_
              refine v_iload5 (pc := 67) K dX3_join_67 ?_
              obtain ⟨j36, h37, h⟩ := bd h
              refine v_laload (pc := 69) K dX3_join_69 (mskC' (ix_lt h35)) (mskC (ix_lt h35)) h37 ?_
              refine v_iload4 (pc := 70) K dX3_join_70 ?_
              obtain ⟨v38, h39, h⟩ := bd h
              refine v_cS3L (pc := 72)  K ca_yX3_joined ml_RX3_144 (t_X3_joined _ K.nt K.ad s22.2 (s22.2.2 (11 + j30) j32) (s22.2.2 (11 + j34) j36) a3 v38 h39) (Nat.le_of_ble_eq_true rfl) (by decide) (by decide) dX3_join_72 ?_
              obtain ⟨j40, h41, h⟩ := bd h
              refine v_lastore (pc := 75) K dX3_join_75 (Nat.le_of_ble_eq_true rfl) rfl h41 ?_
              refine v_iinc5 (pc := 76) (w := 1) K dX3_join_76 rfl (Nat.le_of_ble_eq_true rfl) (by decide) ?_
              refine v_goto (pc := 79) (tgt := 34) K dX3_join_79 (by decide) ?_
              have e := lfc h hk
              exact e
          · cases hF
            exact v_cS1X (pc := 28)  K ca_yX3_needArgument ml_RX3_73 (t_X3_needArgument _ K.nt K.ad s10 t13 (.error e21) _ h20) (Nat.le_of_ble_eq_true rfl) (by decide) (by decide) dX3_join_28 hN rfl rfl
        clear h
        have h := h15
        refine v_if_lt (pc := 14) (tgt := 27) K dX3_join_14 (by decide) (fun c16 => ?_) (fun c16 => ?_)
        · have h := it c16 h
          refine v_ic0 (pc := 27) K dX3_join_27 ?_
          cases h
          exact hJ14
        · have h := ie c16 h
          refine v_iload4 (pc := 17) K dX3_join_17 ?_
          refine v_ic3 (pc := 19) K dX3_join_19 ?_
          refine v_icmp_gt (pc := 20) (tgt := 27) K dX3_join_20 (by decide) (fun c17 => ?_) (fun c17 => ?_)
          · have h := it c17 h
            refine v_ic0 (pc := 27) K dX3_join_27 ?_
            cases h
            exact hJ14
          · have h := ie c17 h
            refine v_ic1 (pc := 23) K dX3_join_23 ?_
            refine v_goto (pc := 24) (tgt := 28) K dX3_join_24 (by decide) ?_
            cases h
            exact hJ14
      · cases hF
        exact v_cS1X (pc := 9)  K ca_yX3_needMask ml_RX3_125 (t_X3_needMask _ K.nt K.ad s6 a2 (.error e12) _ h11) (Nat.le_of_ble_eq_true rfl) (by decide) (by decide) dX3_join_9 hN rfl rfl
    · cases hF
      exact v_cS1X (pc := 5)  K ca_yX3_needMask ml_RX3_125 (t_X3_needMask _ K.nt K.ad s2 a1 (.error e8) _ h7) (Nat.le_of_ble_eq_true rfl) (by decide) (by decide) dX3_join_5 hN rfl rfl
  · cases hF
    exact v_cS1X (pc := 1)  K ca_yX3_needMask ml_RX3_125 (t_X3_needMask _ K.nt K.ad σ a0 (.error e4) _ h3) (Nat.le_of_ble_eq_true rfl) (by decide) (by decide) dX3_join_1 hN rfl rfl
set_option maxRecDepth 100000 in
def c_X3_turn (σ : St) (a0 : Int32) (a1 : Int32) : Option (Except String Int32 × St) :=
  (xB (c_X3_needMask σ a0) fun _ s2 => (xB (c_X3_needMask s2 a1) fun _ s6 => ((lp 5000 (fun (s9 : Int32 × St) => (if (3 : Int32) ≤ s9.1 then some (.inr s9.2) else ((ix a1 8).bind fun j17 => ((ix s9.1 3).bind fun j19 => ((c_X1_rowsOfWord s9.2 s9.1).bind fun v21 => ((ix s9.1 3).bind fun j23 => some (.inl ((s9.1 + 1), (sL s9.2 26 j23 ((s9.2.2 (11 + j17) j19 ^^^ ((-1) : Int64)) &&& v21)))))))))) ((0 : Int32), s6)).bind fun (r10 : St) => ((c_X3_become r10 a0).bind fun v25 => some (.ok v25.1, v25.2)))))
set_option maxHeartbeats 4000000 in
set_option maxRecDepth 100000 in
theorem t_X3_turn (l : Launch) (hnt : l.stackTraces = false) {E : Ev} {base : Nat} (hE : Adr YC E base) (σ : St) (a0 : Int32) (a1 : Int32) (r : Except String Int32) (σ' : St) (h : c_X3_turn σ a0 a1 = some (r, σ')) : Ctr l yX3_turn cX3_turn 4 (some .int) 7 120 YC E base [.ref (E.2.2 0), .int a0, .int a1] σ (rI r) σ' := by
  unfold c_X3_turn at h
  refine ofV 1 (by decide +kernel) rfl hE hnt (Nat.le_of_ble_eq_true rfl) rfl (fun M hN K => ?_)
  refine v_iload1 (pc := 0) K dX3_turn_0 ?_
  rcases xb h with ⟨v1, s2, h3, h⟩ | ⟨e4, s2, h3, hF⟩
  · refine v_cS1U (pc := 1) K ca_yX3_needMask ml_RX3_125 (t_X3_needMask _ K.nt K.ad σ a0 (.ok v1) s2 h3) (Nat.le_of_ble_eq_true rfl) (by decide) (by decide) dX3_turn_1 ?_
    refine v_iload2 (pc := 4) K dX3_turn_4 ?_
    rcases xb h with ⟨v5, s6, h7, h⟩ | ⟨e8, s6, h7, hF⟩
    · refine v_cS1U (pc := 5) K ca_yX3_needMask ml_RX3_125 (t_X3_needMask _ K.nt K.ad s2 a1 (.ok v5) s6 h7) (Nat.le_of_ble_eq_true rfl) (by decide) (by decide) dX3_turn_5 ?_
      refine v_ic0 (pc := 8) K dX3_turn_8 ?_
      refine v_istore3 (pc := 9) K dX3_turn_9 rfl (Nat.le_of_ble_eq_true rfl) ?_
      obtain ⟨r10, h12, h⟩ := bd h
      have hJ11 : V (mkX M YC E base 4 (rI r) σ') r10 51 [some (.ref (E.2.2 0)), some (.int a0), none, none] [] := by
        refine v_aload0 (pc := 51) K dX3_turn_51 ?_
        refine v_iload1 (pc := 52) K dX3_turn_52 ?_
        obtain ⟨v25, h26, h⟩ := bd h
        refine v_cV1I (pc := 53)  K ca_yX3_become ml_RX3_131 (Nat.le_of_ble_eq_true rfl) rfl rfl (t_X3_become _ K.nt K.ad r10 a0 v25 h26) (Nat.le_of_ble_eq_true rfl) (by decide) (by decide) dX3_turn_53 ?_
        cases h
        exact v_iret (pc := 56) K dX3_turn_56 rfl rfl
      clear h
      have hL27 := lpv h12 (fun s9 : Int32 × St => V (mkX M YC E base 4 (rI r) σ') s9.2 10 [some (.ref (E.2.2 0)), some (.int a0), some (.int a1), some (.int s9.1)] [])
      refine hL27 (fun s9 o h hk => ?_)
      refine v_iload3 (pc := 10) K dX3_turn_10 ?_
      refine v_ic3 (pc := 11) K dX3_turn_11 ?_
      refine v_icmp_ge (pc := 12) (tgt := 51) K dX3_turn_12 (by decide) (fun c16 => ?_) (fun c16 => ?_)
      · have h := it c16 h
        have e := lx h hk
        cases e
        exact v_fg [true, true, false, false] hJ11
      · have h := ie c16 h
        refine v_aload0 (pc := 15) K dX3_turn_15 ?_
        refine v_getR (pc := 16) K fl_RX3_36 dX3_turn_16 (Nat.le_of_ble_eq_true rfl) rfl rfl ?_
        refine v_iload3 (pc := 19) K dX3_turn_19 ?_
        refine v_aload0 (pc := 20) K dX3_turn_20 ?_
        refine v_getR (pc := 21) K fl_RX3_14 dX3_turn_21 (Nat.le_of_ble_eq_true rfl) rfl rfl ?_
        refine v_getR (pc := 24) K fl_RX3_134 dX3_turn_24 (Nat.le_of_ble_eq_true rfl) rfl rfl ?_
        refine v_iload2 (pc := 27) K dX3_turn_27 ?_
        obtain ⟨j17, h18, h⟩ := bd h
        refine v_aal (pc := 28) (b := 11) K dX3_turn_28 (Nat.le_of_ble_eq_true rfl) rfl rfl h18 ?_
        refine v_iload3 (pc := 29) K dX3_turn_29 ?_
        obtain ⟨j19, h20, h⟩ := bd h
        refine v_laload (pc := 30) K dX3_turn_30 (mskC' (ix_lt h18)) (mskC (ix_lt h18)) h20 ?_
        refine v_ldc2 (pc := 31) K dX3_turn_31 cl_RX3_148 ?_
        refine v_lxor (pc := 34) K dX3_turn_34 ?_
        refine v_aload0 (pc := 35) K dX3_turn_35 ?_
        refine v_getR (pc := 36) K fl_RX3_14 dX3_turn_36 (Nat.le_of_ble_eq_true rfl) rfl rfl ?_
        refine v_iload3 (pc := 39) K dX3_turn_39 ?_
        obtain ⟨v21, h22, h⟩ := bd h
        refine v_cV1L (pc := 40)  K ca_yX1_rowsOfWord ml_RX3_137 (Nat.le_of_ble_eq_true rfl) rfl rfl (t_X1_rowsOfWord _ K.nt K.ad s9.2 s9.1 v21 h22) (Nat.le_of_ble_eq_true rfl) (by decide) (by decide) dX3_turn_40 ?_
        refine v_land (pc := 43) K dX3_turn_43 ?_
        obtain ⟨j23, h24, h⟩ := bd h
        refine v_lastore (pc := 44) K dX3_turn_44 (Nat.le_of_ble_eq_true rfl) rfl h24 ?_
        refine v_iinc3 (pc := 45) (w := 1) K dX3_turn_45 rfl (Nat.le_of_ble_eq_true rfl) (by decide) ?_
        refine v_goto (pc := 48) (tgt := 10) K dX3_turn_48 (by decide) ?_
        have e := lfc h hk
        exact e
    · cases hF
      exact v_cS1X (pc := 5)  K ca_yX3_needMask ml_RX3_125 (t_X3_needMask _ K.nt K.ad s2 a1 (.error e8) _ h7) (Nat.le_of_ble_eq_true rfl) (by decide) (by decide) dX3_turn_5 hN rfl rfl
  · cases hF
    exact v_cS1X (pc := 1)  K ca_yX3_needMask ml_RX3_125 (t_X3_needMask _ K.nt K.ad σ a0 (.error e4) _ h3) (Nat.le_of_ble_eq_true rfl) (by decide) (by decide) dX3_turn_1 hN rfl rfl
set_option maxRecDepth 100000 in
def c_X1_isNumbered (σ : St) (a0 : Int32) (a1 : Int32) (a2 : Int32) : Option (Int32) :=
  ((ix a0 6).bind fun j1 => ((ix a1 192).bind fun j3 => ((if σ.2 (4 + j1) j3 = ((-9223372036854775808) : Int64) then some (0 : Int32) else ((c_X1_isUnder σ a1 a2).bind fun v9 => (if v9 = 0 then some (0 : Int32) else some (1 : Int32)))).bind fun (t5 : Int32) => some (nz t5))))
set_option maxHeartbeats 4000000 in
set_option maxRecDepth 100000 in
theorem t_X1_isNumbered (l : Launch) (hnt : l.stackTraces = false) {E : Ev} {base : Nat} (hE : Adr YC E base) (σ : St) (a0 : Int32) (a1 : Int32) (a2 : Int32) (r : Int32) (h : c_X1_isNumbered σ a0 a1 a2 = some r) : Ctr l yX1_isNumbered cX1_isNumbered 4 (some .boolean) 2 43 YC E base [.ref (E.2.2 1), .int a0, .int a1, .int a2] σ (.ok (some (.int r))) σ := by
  unfold c_X1_isNumbered at h
  refine ofV 0 (by decide +kernel) rfl hE hnt (Nat.le_of_ble_eq_true rfl) rfl (fun M hN K => ?_)
  refine v_aload0 (pc := 0) K dX1_isNumbered_0 ?_
  refine v_getR (pc := 1) K fl_RX1_17 dX1_isNumbered_1 (Nat.le_of_ble_eq_true rfl) rfl rfl ?_
  refine v_iload1 (pc := 4) K dX1_isNumbered_4 ?_
  obtain ⟨j1, h2, h⟩ := bd h
  refine v_aal (pc := 5) (b := 4) K dX1_isNumbered_5 (Nat.le_of_ble_eq_true rfl) rfl rfl h2 ?_
  refine v_iload2 (pc := 6) K dX1_isNumbered_6 ?_
  obtain ⟨j3, h4, h⟩ := bd h
  refine v_laload (pc := 7) K dX1_isNumbered_7 (rowC' (ix_lt h2)) (rowC (ix_lt h2)) h4 ?_
  refine v_ldc2 (pc := 8) K dX1_isNumbered_8 cl_RX1_36 ?_
  obtain ⟨t5, h7, h⟩ := bd h
  have hJ6 : V (mkX M YC E base 4 (.ok (some (.int r))) σ) σ 29 [none, none, none, none] [.int t5] := by
    cases h
    exact v_zret (pc := 29) K dX1_isNumbered_29 rfl rfl
  clear h
  have h := h7
  refine v_lc_eq (pc := 11) (tgt := 28) K dX1_isNumbered_11 dX1_isNumbered_12 (by decide) (fun c8 => ?_) (fun c8 => ?_)
  · have h := it c8 h
    refine v_ic0 (pc := 28) K dX1_isNumbered_28 ?_
    cases h
    exact (v_fg [false, false, false, false] hJ6)
  · have h := ie c8 h
    refine v_aload0 (pc := 15) K dX1_isNumbered_15 ?_
    refine v_iload2 (pc := 16) K dX1_isNumbered_16 ?_
    refine v_iload3 (pc := 17) K dX1_isNumbered_17 ?_
    obtain ⟨v9, h10, h⟩ := bd h
    refine v_cV2I (pc := 18)  K ca_yX1_isUnder ml_RX1_50 (Nat.le_of_ble_eq_true rfl) rfl rfl (t_X1_isUnder _ K.nt K.ad σ a1 a2 v9 h10) (Nat.le_of_ble_eq_true rfl) (by decide) (by decide) dX1_isNumbered_18 ?_
    refine v_if_eq (pc := 21) (tgt := 28) K dX1_isNumbered_21 (by decide) (fun c11 => ?_) (fun c11 => ?_)
    · have h := it c11 h
      refine v_ic0 (pc := 28) K dX1_isNumbered_28 ?_
      cases h
      exact (v_fg [false, false, false, false] hJ6)
    · have h := ie c11 h
      refine v_ic1 (pc := 24) K dX1_isNumbered_24 ?_
      refine v_goto (pc := 25) (tgt := 29) K dX1_isNumbered_25 (by decide) ?_
      cases h
      exact (v_fg [false, false, false, false] hJ6)
set_option maxRecDepth 100000 in
def c_X3_stands (σ : St) (a0 : Int64) (a1 : Int32) (a2 : Int64) : Option (Int32) :=
  (if a1 = 0 then ((if a2 ≤ a0 then some (0 : Int32) else some (1 : Int32)).bind fun (t2 : Int32) => some (nz t2)) else (if a1 = 1 then ((if a2 < a0 then some (0 : Int32) else some (1 : Int32)).bind fun (t7 : Int32) => some (nz t7)) else (if a1 = 2 then ((if a0 = a2 then some (1 : Int32) else some (0 : Int32)).bind fun (t12 : Int32) => some (nz t12)) else (if a1 = 3 then ((if a0 = a2 then some (0 : Int32) else some (1 : Int32)).bind fun (t17 : Int32) => some (nz t17)) else (if a1 = 4 then ((if a0 < a2 then some (0 : Int32) else some (1 : Int32)).bind fun (t22 : Int32) => some (nz t22)) else ((if a0 ≤ a2 then some (0 : Int32) else some (1 : Int32)).bind fun (t26 : Int32) => some (nz t26)))))))
set_option maxHeartbeats 4000000 in
set_option maxRecDepth 100000 in
theorem t_X3_stands (l : Launch) (hnt : l.stackTraces = false) {E : Ev} {base : Nat} (hE : Adr YC E base) (σ : St) (a0 : Int64) (a1 : Int32) (a2 : Int64) (r : Int32) (h : c_X3_stands σ a0 a1 a2 = some r) : Ctr l yX3_stands cX3_stands 5 (some .boolean) 0 0 YC E base [.long a0, .int a1, .long a2] σ (.ok (some (.int r))) σ := by
  unfold c_X3_stands at h
  refine ofV 0 (by decide +kernel) rfl hE hnt (Nat.le_of_ble_eq_true rfl) rfl (fun M hN K => ?_)
  refine v_iload2 (pc := 0) K dX3_stands_0 ?_
  by_cases c1 : a1 = 0
  · have h := it c1 h
    refine v_tsIn (pc := 1) (k := 0) (tgt := 36) K dX3_stands_1 (by rw [c1]; rfl) (by decide) rfl (by decide) ?_
    refine v_lload0 (pc := 36) K dX3_stands_36 ?_
    refine v_lload3 (pc := 37) K dX3_stands_37 ?_
    obtain ⟨t2, h4, h⟩ := bd h
    have hJ3 : V (mkX M YC E base 5 (.ok (some (.int r))) σ) σ 47 [none, none, none, none, none] [.int t2] := by
      cases h
      exact v_zret (pc := 47) K dX3_stands_47 rfl rfl
    clear h
    have h := h4
    refine v_lc_ge (pc := 38) (tgt := 46) K dX3_stands_38 dX3_stands_39 (by decide) (fun c5 => ?_) (fun c5 => ?_)
    · have h := it c5 h
      refine v_ic0 (pc := 46) K dX3_stands_46 ?_
      cases h
      exact (v_fg [false, true, false, false, true] hJ3)
    · have h := ie c5 h
      refine v_ic1 (pc := 42) K dX3_stands_42 ?_
      refine v_goto (pc := 43) (tgt := 47) K dX3_stands_43 (by decide) ?_
      cases h
      exact (v_fg [false, true, false, false, true] hJ3)
  have h := ie c1 h
  by_cases c6 : a1 = 1
  · have h := it c6 h
    refine v_tsIn (pc := 1) (k := 1) (tgt := 48) K dX3_stands_1 (by rw [c6]; rfl) (by decide) rfl (by decide) ?_
    refine v_lload0 (pc := 48) K dX3_stands_48 ?_
    refine v_lload3 (pc := 49) K dX3_stands_49 ?_
    obtain ⟨t7, h9, h⟩ := bd h
    have hJ8 : V (mkX M YC E base 5 (.ok (some (.int r))) σ) σ 59 [none, none, none, none, none] [.int t7] := by
      cases h
      exact v_zret (pc := 59) K dX3_stands_59 rfl rfl
    clear h
    have h := h9
    refine v_lc_gt (pc := 50) (tgt := 58) K dX3_stands_50 dX3_stands_51 (by decide) (fun c10 => ?_) (fun c10 => ?_)
    · have h := it c10 h
      refine v_ic0 (pc := 58) K dX3_stands_58 ?_
      cases h
      exact (v_fg [false, true, false, false, true] hJ8)
    · have h := ie c10 h
      refine v_ic1 (pc := 54) K dX3_stands_54 ?_
      refine v_goto (pc := 55) (tgt := 59) K dX3_stands_55 (by decide) ?_
      cases h
      exact (v_fg [false, true, false, false, true] hJ8)
  have h := ie c6 h
  by_cases c11 : a1 = 2
  · have h := it c11 h
    refine v_tsIn (pc := 1) (k := 2) (tgt := 60) K dX3_stands_1 (by rw [c11]; rfl) (by decide) rfl (by decide) ?_
    refine v_lload0 (pc := 60) K dX3_stands_60 ?_
    refine v_lload3 (pc := 61) K dX3_stands_61 ?_
    obtain ⟨t12, h14, h⟩ := bd h
    have hJ13 : V (mkX M YC E base 5 (.ok (some (.int r))) σ) σ 71 [none, none, none, none, none] [.int t12] := by
      cases h
      exact v_zret (pc := 71) K dX3_stands_71 rfl rfl
    clear h
    have h := h14
    refine v_lc_ne (pc := 62) (tgt := 70) K dX3_stands_62 dX3_stands_63 (by decide) (fun c15 => ?_) (fun c15 => ?_)
    · have h := ie c15 h
      refine v_ic0 (pc := 70) K dX3_stands_70 ?_
      cases h
      exact (v_fg [false, true, false, false, true] hJ13)
    · have h := it c15 h
      refine v_ic1 (pc := 66) K dX3_stands_66 ?_
      refine v_goto (pc := 67) (tgt := 71) K dX3_stands_67 (by decide) ?_
      cases h
      exact (v_fg [false, true, false, false, true] hJ13)
  have h := ie c11 h
  by_cases c16 : a1 = 3
  · have h := it c16 h
    refine v_tsIn (pc := 1) (k := 3) (tgt := 72) K dX3_stands_1 (by rw [c16]; rfl) (by decide) rfl (by decide) ?_
    refine v_lload0 (pc := 72) K dX3_stands_72 ?_
    refine v_lload3 (pc := 73) K dX3_stands_73 ?_
    obtain ⟨t17, h19, h⟩ := bd h
    have hJ18 : V (mkX M YC E base 5 (.ok (some (.int r))) σ) σ 83 [none, none, none, none, none] [.int t17] := by
      cases h
      exact v_zret (pc := 83) K dX3_stands_83 rfl rfl
    clear h
    have h := h19
    refine v_lc_eq (pc := 74) (tgt := 82) K dX3_stands_74 dX3_stands_75 (by decide) (fun c20 => ?_) (fun c20 => ?_)
    · have h := it c20 h
      refine v_ic0 (pc := 82) K dX3_stands_82 ?_
      cases h
      exact (v_fg [false, true, false, false, true] hJ18)
    · have h := ie c20 h
      refine v_ic1 (pc := 78) K dX3_stands_78 ?_
      refine v_goto (pc := 79) (tgt := 83) K dX3_stands_79 (by decide) ?_
      cases h
      exact (v_fg [false, true, false, false, true] hJ18)
  have h := ie c16 h
  by_cases c21 : a1 = 4
  · have h := it c21 h
    refine v_tsIn (pc := 1) (k := 4) (tgt := 84) K dX3_stands_1 (by rw [c21]; rfl) (by decide) rfl (by decide) ?_
    refine v_lload0 (pc := 84) K dX3_stands_84 ?_
    refine v_lload3 (pc := 85) K dX3_stands_85 ?_
    obtain ⟨t22, h24, h⟩ := bd h
    have hJ23 : V (mkX M YC E base 5 (.ok (some (.int r))) σ) σ 95 [none, none, none, none, none] [.int t22] := by
      cases h
      exact v_zret (pc := 95) K dX3_stands_95 rfl rfl
    clear h
    have h := h24
    refine v_lc_lt (pc := 86) (tgt := 94) K dX3_stands_86 dX3_stands_87 (by decide) (fun c25 => ?_) (fun c25 => ?_)
    · have h := it c25 h
      refine v_ic0 (pc := 94) K dX3_stands_94 ?_
      cases h
      exact (v_fg [false, true, false, false, true] hJ23)
    · have h := ie c25 h
      refine v_ic1 (pc := 90) K dX3_stands_90 ?_
      refine v_goto (pc := 91) (tgt := 95) K dX3_stands_91 (by decide) ?_
      cases h
      exact (v_fg [false, true, false, false, true] hJ23)
  have h := ie c21 h
  refine v_tsOut (pc := 1) (tgt := 96) K dX3_stands_1 (ts_out 5 (by decide) (fun k hk => by match k, hk with | 0, _ => exact fun q => c1 q | 1, _ => exact fun q => c6 q | 2, _ => exact fun q => c11 q | 3, _ => exact fun q => c16 q | 4, _ => exact fun q => c21 q)) (by decide) ?_
  refine v_lload0 (pc := 96) K dX3_stands_96 ?_
  refine v_lload3 (pc := 97) K dX3_stands_97 ?_
  obtain ⟨t26, h28, h⟩ := bd h
  have hJ27 : V (mkX M YC E base 5 (.ok (some (.int r))) σ) σ 107 [none, none, none, none, none] [.int t26] := by
    cases h
    exact v_zret (pc := 107) K dX3_stands_107 rfl rfl
  clear h
  have h := h28
  refine v_lc_le (pc := 98) (tgt := 106) K dX3_stands_98 dX3_stands_99 (by decide) (fun c29 => ?_) (fun c29 => ?_)
  · have h := it c29 h
    refine v_ic0 (pc := 106) K dX3_stands_106 ?_
    cases h
    exact (v_fg [false, true, false, false, true] hJ27)
  · have h := ie c29 h
    refine v_ic1 (pc := 102) K dX3_stands_102 ?_
    refine v_goto (pc := 103) (tgt := 107) K dX3_stands_103 (by decide) ?_
    cases h
    exact (v_fg [false, true, false, false, true] hJ27)
set_option maxRecDepth 100000 in
def c_X3_compare (σ : St) (a0 : Int32) (a1 : Int32) (a2 : Int32) (a3 : Int64) (a4 : Int32) : Option (Except String Int32 × St) :=
  (xB (c_X3_needMask σ a0) fun _ s2 => (xB (c_X3_needColumn s2 a1) fun _ s6 => (xB (c_X3_needMask s6 a4) fun _ s10 => ((if a2 < 0 then some (0 : Int32) else (if (5 : Int32) < a2 then some (0 : Int32) else some (1 : Int32))).bind fun (t13 : Int32) => (xB (c_X3_needArgument s10 t13) fun _ s19 => ((c_X3_begin s19).bind fun v22 => ((lp 5000 (fun (s24 : Int32 × St) => (if s24.2.1 1 0 ≤ s24.1 then some (.inr s24.2) else ((c_X1_isNumbered s24.2 a1 s24.1 a4).bind fun v32 => ((if v32 = 0 then some s24.2 else ((ix a1 6).bind fun j38 => ((ix s24.1 192).bind fun j40 => ((c_X3_stands s24.2 (s24.2.2 (4 + j38) j40) a2 a3).bind fun v42 => (if v42 = 0 then some s24.2 else ((c_X3_include s24.2 s24.1).bind fun v45 => some v45)))))).bind fun (t34 : St) => some (.inl ((s24.1 + 1), t34)))))) ((0 : Int32), v22)).bind fun (r25 : St) => ((c_X3_become r25 a0).bind fun v47 => some (.ok v47.1, v47.2)))))))))
set_option maxHeartbeats 4000000 in
set_option maxRecDepth 100000 in
theorem t_X3_compare (l : Launch) (hnt : l.stackTraces = false) {E : Ev} {base : Nat} (hE : Adr YC E base) (σ : St) (a0 : Int32) (a1 : Int32) (a2 : Int32) (a3 : Int64) (a4 : Int32) (r : Except String Int32) (σ' : St) (h : c_X3_compare σ a0 a1 a2 a3 a4 = some (r, σ')) : Ctr l yX3_compare cX3_compare 8 (some .int) 7 121 YC E base [.ref (E.2.2 0), .int a0, .int a1, .int a2, .long a3, .int a4] σ (rI r) σ' := by
  unfold c_X3_compare at h
  refine ofV 1 (by decide +kernel) rfl hE hnt (Nat.le_of_ble_eq_true rfl) rfl (fun M hN K => ?_)
  refine v_iload1 (pc := 0) K dX3_compare_0 ?_
  rcases xb h with ⟨v1, s2, h3, h⟩ | ⟨e4, s2, h3, hF⟩
  · refine v_cS1U (pc := 1) K ca_yX3_needMask ml_RX3_125 (t_X3_needMask _ K.nt K.ad σ a0 (.ok v1) s2 h3) (Nat.le_of_ble_eq_true rfl) (by decide) (by decide) dX3_compare_1 ?_
    refine v_aload0 (pc := 4) K dX3_compare_4 ?_
    refine v_iload2 (pc := 5) K dX3_compare_5 ?_
    rcases xb h with ⟨v5, s6, h7, h⟩ | ⟨e8, s6, h7, hF⟩
    · refine v_cV1U (pc := 6) K ca_yX3_needColumn ml_RX3_66 (Nat.le_of_ble_eq_true rfl) rfl rfl (t_X3_needColumn _ K.nt K.ad s2 a1 (.ok v5) s6 h7) (Nat.le_of_ble_eq_true rfl) (by decide) (by decide) dX3_compare_6 ?_
      refine v_iload6 (pc := 9) K dX3_compare_9 ?_
      rcases xb h with ⟨v9, s10, h11, h⟩ | ⟨e12, s10, h11, hF⟩
      · refine v_cS1U (pc := 11) K ca_yX3_needMask ml_RX3_125 (t_X3_needMask _ K.nt K.ad s6 a4 (.ok v9) s10 h11) (Nat.le_of_ble_eq_true rfl) (by decide) (by decide) dX3_compare_11 ?_
        refine v_iload3 (pc := 14) K dX3_compare_14 ?_
        obtain ⟨t13, h15, h⟩ := bd h
        have hJ14 : V (mkX M YC E base 8 (rI r) σ') s10 28 [some (.ref (E.2.2 0)), some (.int a0), some (.int a1), some (.int a2), some (.long a3), none, some (.int a4), none] [.int t13] := by
          rcases xb h with ⟨v18, s19, h20, h⟩ | ⟨e21, s19, h20, hF⟩
          · refine v_cS1U (pc := 28) K ca_yX3_needArgument ml_RX3_73 (t_X3_needArgument _ K.nt K.ad s10 t13 (.ok v18) s19 h20) (Nat.le_of_ble_eq_true rfl) (by decide) (by decide) dX3_compare_28 ?_
            refine v_aload0 (pc := 31) K dX3_compare_31 ?_
            obtain ⟨v22, h23, h⟩ := bd h
            refine v_cV0U (pc := 32)  K ca_yX3_begin ml_RX3_115 (Nat.le_of_ble_eq_true rfl) rfl rfl (t_X3_begin _ K.nt K.ad s19 v22 h23) (Nat.le_of_ble_eq_true rfl) (by decide) (by decide) dX3_compare_32 ?_
            refine v_ic0 (pc := 35) K dX3_compare_35 ?_
            refine v_istore7 (pc := 36) K dX3_compare_36 rfl (Nat.le_of_ble_eq_true rfl) ?_
            obtain ⟨r25, h27, h⟩ := bd h
            have hJ26 : V (mkX M YC E base 8 (rI r) σ') r25 98 [some (.ref (E.2.2 0)), some (.int a0), none, none, none, none, none, none] [] := by
              refine v_aload0 (pc := 98) K dX3_compare_98 ?_
              refine v_iload1 (pc := 99) K dX3_compare_99 ?_
              obtain ⟨v47, h48, h⟩ := bd h
              refine v_cV1I (pc := 100)  K ca_yX3_become ml_RX3_131 (Nat.le_of_ble_eq_true rfl) rfl rfl (t_X3_become _ K.nt K.ad r25 a0 v47 h48) (Nat.le_of_ble_eq_true rfl) (by decide) (by decide) dX3_compare_100 ?_
              cases h
              exact v_iret (pc := 103) K dX3_compare_103 rfl rfl
            clear h
            have hL49 := lpv h27 (fun s24 : Int32 × St => V (mkX M YC E base 8 (rI r) σ') s24.2 38 [some (.ref (E.2.2 0)), some (.int a0), some (.int a1), some (.int a2), some (.long a3), none, some (.int a4), some (.int s24.1)] [])
            refine hL49 (fun s24 o h hk => ?_)
            refine v_iload7 (pc := 38) K dX3_compare_38 ?_
            refine v_aload0 (pc := 40) K dX3_compare_40 ?_
            refine v_getR (pc := 41) K fl_RX3_14 dX3_compare_41 (Nat.le_of_ble_eq_true rfl) rfl rfl ?_
            refine v_getI (pc := 44) K fl_RX3_76 dX3_compare_44 (Nat.le_of_ble_eq_true rfl) rfl rfl ?_
            refine v_icmp_ge (pc := 47) (tgt := 98) K dX3_compare_47 (by decide) (fun c31 => ?_) (fun c31 => ?_)
            · have h := it c31 h
              have e := lx h hk
              cases e
              exact v_fg [true, true, false, false, false, true, false, false] hJ26
            · have h := ie c31 h
              refine v_aload0 (pc := 50) K dX3_compare_50 ?_
              refine v_getR (pc := 51) K fl_RX3_14 dX3_compare_51 (Nat.le_of_ble_eq_true rfl) rfl rfl ?_
              refine v_iload2 (pc := 54) K dX3_compare_54 ?_
              refine v_iload7 (pc := 55) K dX3_compare_55 ?_
              refine v_iload6 (pc := 57) K dX3_compare_57 ?_
              obtain ⟨v32, h33, h⟩ := bd h
              refine v_cV3I (pc := 59)  K ca_yX1_isNumbered ml_RX3_150 (Nat.le_of_ble_eq_true rfl) rfl rfl (t_X1_isNumbered _ K.nt K.ad s24.2 a1 s24.1 a4 v32 h33) (Nat.le_of_ble_eq_true rfl) (by decide) (by decide) dX3_compare_59 ?_
              obtain ⟨t34, h36, h⟩ := bd h
              have hJ35 : V (mkX M YC E base 8 (rI r) σ') t34 92 [some (.ref (E.2.2 0)), some (.int a0), some (.int a1), some (.int a2), some (.long a3), none, some (.int a4), some (.int s24.1)] [] := by
                refine v_iinc7 (pc := 92) (w := 1) K dX3_compare_92 rfl (Nat.le_of_ble_eq_true rfl) (by decide) ?_
                refine v_goto (pc := 95) (tgt := 38) K dX3_compare_95 (by decide) ?_
                have e := lfc h hk
                exact e
              clear h
              have h := h36
              refine v_if_eq (pc := 62) (tgt := 92) K dX3_compare_62 (by decide) (fun c37 => ?_) (fun c37 => ?_)
              · have h := it c37 h
                cases h
                exact hJ35
              · have h := ie c37 h
                refine v_aload0 (pc := 65) K dX3_compare_65 ?_
                refine v_getR (pc := 66) K fl_RX3_14 dX3_compare_66 (Nat.le_of_ble_eq_true rfl) rfl rfl ?_
                refine v_getR (pc := 69) K fl_RX3_86 dX3_compare_69 (Nat.le_of_ble_eq_true rfl) rfl rfl ?_
                refine v_iload2 (pc := 72) K dX3_compare_72 ?_
                obtain ⟨j38, h39, h⟩ := bd h
                refine v_aal (pc := 73) (b := 4) K dX3_compare_73 (Nat.le_of_ble_eq_true rfl) rfl rfl h39 ?_
                refine v_iload7 (pc := 74) K dX3_compare_74 ?_
                obtain ⟨j40, h41, h⟩ := bd h
                refine v_laload (pc := 76) K dX3_compare_76 (rowC' (ix_lt h39)) (rowC (ix_lt h39)) h41 ?_
                refine v_iload3 (pc := 77) K dX3_compare_77 ?_
                refine v_lload4 (pc := 78) K dX3_compare_78 ?_
                obtain ⟨v42, h43, h⟩ := bd h
                refine v_cS3I (pc := 80)  K ca_yX3_stands ml_RX3_154 (t_X3_stands _ K.nt K.ad s24.2 (s24.2.2 (4 + j38) j40) a2 a3 v42 h43) (Nat.le_of_ble_eq_true rfl) (by decide) (by decide) dX3_compare_80 ?_
                refine v_if_eq (pc := 83) (tgt := 92) K dX3_compare_83 (by decide) (fun c44 => ?_) (fun c44 => ?_)
                · have h := it c44 h
                  cases h
                  exact hJ35
                · have h := ie c44 h
                  refine v_aload0 (pc := 86) K dX3_compare_86 ?_
                  refine v_iload7 (pc := 87) K dX3_compare_87 ?_
                  obtain ⟨v45, h46, h⟩ := bd h
                  refine v_cV1U (pc := 89)  K ca_yX3_include ml_RX3_122 (Nat.le_of_ble_eq_true rfl) rfl rfl (t_X3_include _ K.nt K.ad s24.2 s24.1 v45 h46) (Nat.le_of_ble_eq_true rfl) (by decide) (by decide) dX3_compare_89 ?_
                  cases h
                  exact hJ35
          · cases hF
            exact v_cS1X (pc := 28)  K ca_yX3_needArgument ml_RX3_73 (t_X3_needArgument _ K.nt K.ad s10 t13 (.error e21) _ h20) (Nat.le_of_ble_eq_true rfl) (by decide) (by decide) dX3_compare_28 hN rfl rfl
        clear h
        have h := h15
        refine v_if_lt (pc := 15) (tgt := 27) K dX3_compare_15 (by decide) (fun c16 => ?_) (fun c16 => ?_)
        · have h := it c16 h
          refine v_ic0 (pc := 27) K dX3_compare_27 ?_
          cases h
          exact hJ14
        · have h := ie c16 h
          refine v_iload3 (pc := 18) K dX3_compare_18 ?_
          refine v_ic5 (pc := 19) K dX3_compare_19 ?_
          refine v_icmp_gt (pc := 20) (tgt := 27) K dX3_compare_20 (by decide) (fun c17 => ?_) (fun c17 => ?_)
          · have h := it c17 h
            refine v_ic0 (pc := 27) K dX3_compare_27 ?_
            cases h
            exact hJ14
          · have h := ie c17 h
            refine v_ic1 (pc := 23) K dX3_compare_23 ?_
            refine v_goto (pc := 24) (tgt := 28) K dX3_compare_24 (by decide) ?_
            cases h
            exact hJ14
      · cases hF
        exact v_cS1X (pc := 11)  K ca_yX3_needMask ml_RX3_125 (t_X3_needMask _ K.nt K.ad s6 a4 (.error e12) _ h11) (Nat.le_of_ble_eq_true rfl) (by decide) (by decide) dX3_compare_11 hN rfl rfl
    · cases hF
      exact v_cV1X (pc := 6)  K ca_yX3_needColumn ml_RX3_66 (Nat.le_of_ble_eq_true rfl) rfl rfl (t_X3_needColumn _ K.nt K.ad s2 a1 (.error e8) _ h7) (Nat.le_of_ble_eq_true rfl) (by decide) (by decide) dX3_compare_6 hN rfl rfl
  · cases hF
    exact v_cS1X (pc := 1)  K ca_yX3_needMask ml_RX3_125 (t_X3_needMask _ K.nt K.ad σ a0 (.error e4) _ h3) (Nat.le_of_ble_eq_true rfl) (by decide) (by decide) dX3_compare_1 hN rfl rfl
set_option maxRecDepth 100000 in
def c_X1_areBothNumbered (σ : St) (a0 : Int32) (a1 : Int32) (a2 : Int32) (a3 : Int32) : Option (Int32) :=
  ((ix a1 6).bind fun j1 => ((ix a2 192).bind fun j3 => ((if σ.2 (4 + j1) j3 = ((-9223372036854775808) : Int64) then some (0 : Int32) else ((c_X1_isNumbered σ a0 a2 a3).bind fun v9 => (if v9 = 0 then some (0 : Int32) else some (1 : Int32)))).bind fun (t5 : Int32) => some (nz t5))))
set_option maxHeartbeats 4000000 in
set_option maxRecDepth 100000 in
theorem t_X1_areBothNumbered (l : Launch) (hnt : l.stackTraces = false) {E : Ev} {base : Nat} (hE : Adr YC E base) (σ : St) (a0 : Int32) (a1 : Int32) (a2 : Int32) (a3 : Int32) (r : Int32) (h : c_X1_areBothNumbered σ a0 a1 a2 a3 = some r) : Ctr l yX1_areBothNumbered cX1_areBothNumbered 5 (some .boolean) 3 66 YC E base [.ref (E.2.2 1), .int a0, .int a1, .int a2, .int a3] σ (.ok (some (.int r))) σ := by
  unfold c_X1_areBothNumbered at h
  refine ofV 0 (by decide +kernel) rfl hE hnt (Nat.le_of_ble_eq_true rfl) rfl (fun M hN K => ?_)
  refine v_aload0 (pc := 0) K dX1_areBothNumbered_0 ?_
  refine v_getR (pc := 1) K fl_RX1_17 dX1_areBothNumbered_1 (Nat.le_of_ble_eq_true rfl) rfl rfl ?_
  refine v_iload2 (pc := 4) K dX1_areBothNumbered_4 ?_
  obtain ⟨j1, h2, h⟩ := bd h
  refine v_aal (pc := 5) (b := 4) K dX1_areBothNumbered_5 (Nat.le_of_ble_eq_true rfl) rfl rfl h2 ?_
  refine v_iload3 (pc := 6) K dX1_areBothNumbered_6 ?_
  obtain ⟨j3, h4, h⟩ := bd h
  refine v_laload (pc := 7) K dX1_areBothNumbered_7 (rowC' (ix_lt h2)) (rowC (ix_lt h2)) h4 ?_
  refine v_ldc2 (pc := 8) K dX1_areBothNumbered_8 cl_RX1_36 ?_
  obtain ⟨t5, h7, h⟩ := bd h
  have hJ6 : V (mkX M YC E base 5 (.ok (some (.int r))) σ) σ 31 [none, none, none, none, none] [.int t5] := by
    cases h
    exact v_zret (pc := 31) K dX1_areBothNumbered_31 rfl rfl
  clear h
  have h := h7
  refine v_lc_eq (pc := 11) (tgt := 30) K dX1_areBothNumbered_11 dX1_areBothNumbered_12 (by decide) (fun c8 => ?_) (fun c8 => ?_)
  · have h := it c8 h
    refine v_ic0 (pc := 30) K dX1_areBothNumbered_30 ?_
    cases h
    exact (v_fg [false, false, false, false, false] hJ6)
  · have h := ie c8 h
    refine v_aload0 (pc := 15) K dX1_areBothNumbered_15 ?_
    refine v_iload1 (pc := 16) K dX1_areBothNumbered_16 ?_
    refine v_iload3 (pc := 17) K dX1_areBothNumbered_17 ?_
    refine v_iload4 (pc := 18) K dX1_areBothNumbered_18 ?_
    obtain ⟨v9, h10, h⟩ := bd h
    refine v_cV3I (pc := 20)  K ca_yX1_isNumbered ml_RX1_54 (Nat.le_of_ble_eq_true rfl) rfl rfl (t_X1_isNumbered _ K.nt K.ad σ a0 a2 a3 v9 h10) (Nat.le_of_ble_eq_true rfl) (by decide) (by decide) dX1_areBothNumbered_20 ?_
    refine v_if_eq (pc := 23) (tgt := 30) K dX1_areBothNumbered_23 (by decide) (fun c11 => ?_) (fun c11 => ?_)
    · have h := it c11 h
      refine v_ic0 (pc := 30) K dX1_areBothNumbered_30 ?_
      cases h
      exact (v_fg [false, false, false, false, false] hJ6)
    · have h := ie c11 h
      refine v_ic1 (pc := 26) K dX1_areBothNumbered_26 ?_
      refine v_goto (pc := 27) (tgt := 31) K dX1_areBothNumbered_27 (by decide) ?_
      cases h
      exact (v_fg [false, false, false, false, false] hJ6)
set_option maxRecDepth 100000 in
def c_X3_against (σ : St) (a0 : Int32) (a1 : Int32) (a2 : Int32) (a3 : Int32) (a4 : Int32) : Option (Except String Int32 × St) :=
  (xB (c_X3_needMask σ a0) fun _ s2 => (xB (c_X3_needColumn s2 a1) fun _ s6 => (xB (c_X3_needColumn s6 a2) fun _ s10 => (xB (c_X3_needMask s10 a4) fun _ s14 => ((if a3 < 0 then some (0 : Int32) else (if (5 : Int32) < a3 then some (0 : Int32) else some (1 : Int32))).bind fun (t17 : Int32) => (xB (c_X3_needArgument s14 t17) fun _ s23 => ((c_X3_begin s23).bind fun v26 => ((lp 5000 (fun (s28 : Int32 × St) => (if s28.2.1 1 0 ≤ s28.1 then some (.inr s28.2) else ((c_X1_areBothNumbered s28.2 a1 a2 s28.1 a4).bind fun v36 => ((if v36 = 0 then some s28.2 else ((ix a1 6).bind fun j42 => ((ix s28.1 192).bind fun j44 => ((ix a2 6).bind fun j46 => ((ix s28.1 192).bind fun j48 => ((c_X3_stands s28.2 (s28.2.2 (4 + j42) j44) a3 (s28.2.2 (4 + j46) j48)).bind fun v50 => (if v50 = 0 then some s28.2 else ((c_X3_include s28.2 s28.1).bind fun v53 => some v53)))))))).bind fun (t38 : St) => some (.inl ((s28.1 + 1), t38)))))) ((0 : Int32), v26)).bind fun (r29 : St) => ((c_X3_become r29 a0).bind fun v55 => some (.ok v55.1, v55.2))))))))))
set_option maxHeartbeats 4000000 in
set_option maxRecDepth 100000 in
theorem t_X3_against (l : Launch) (hnt : l.stackTraces = false) {E : Ev} {base : Nat} (hE : Adr YC E base) (σ : St) (a0 : Int32) (a1 : Int32) (a2 : Int32) (a3 : Int32) (a4 : Int32) (r : Except String Int32) (σ' : St) (h : c_X3_against σ a0 a1 a2 a3 a4 = some (r, σ')) : Ctr l yX3_against cX3_against 7 (some .int) 7 121 YC E base [.ref (E.2.2 0), .int a0, .int a1, .int a2, .int a3, .int a4] σ (rI r) σ' := by
  unfold c_X3_against at h
  refine ofV 1 (by decide +kernel) rfl hE hnt (Nat.le_of_ble_eq_true rfl) rfl (fun M hN K => ?_)
  refine v_iload1 (pc := 0) K dX3_against_0 ?_
  rcases xb h with ⟨v1, s2, h3, h⟩ | ⟨e4, s2, h3, hF⟩
  · refine v_cS1U (pc := 1) K ca_yX3_needMask ml_RX3_125 (t_X3_needMask _ K.nt K.ad σ a0 (.ok v1) s2 h3) (Nat.le_of_ble_eq_true rfl) (by decide) (by decide) dX3_against_1 ?_
    refine v_aload0 (pc := 4) K dX3_against_4 ?_
    refine v_iload2 (pc := 5) K dX3_against_5 ?_
    rcases xb h with ⟨v5, s6, h7, h⟩ | ⟨e8, s6, h7, hF⟩
    · refine v_cV1U (pc := 6) K ca_yX3_needColumn ml_RX3_66 (Nat.le_of_ble_eq_true rfl) rfl rfl (t_X3_needColumn _ K.nt K.ad s2 a1 (.ok v5) s6 h7) (Nat.le_of_ble_eq_true rfl) (by decide) (by decide) dX3_against_6 ?_
      refine v_aload0 (pc := 9) K dX3_against_9 ?_
      refine v_iload3 (pc := 10) K dX3_against_10 ?_
      rcases xb h with ⟨v9, s10, h11, h⟩ | ⟨e12, s10, h11, hF⟩
      · refine v_cV1U (pc := 11) K ca_yX3_needColumn ml_RX3_66 (Nat.le_of_ble_eq_true rfl) rfl rfl (t_X3_needColumn _ K.nt K.ad s6 a2 (.ok v9) s10 h11) (Nat.le_of_ble_eq_true rfl) (by decide) (by decide) dX3_against_11 ?_
        refine v_iload5 (pc := 14) K dX3_against_14 ?_
        rcases xb h with ⟨v13, s14, h15, h⟩ | ⟨e16, s14, h15, hF⟩
        · refine v_cS1U (pc := 16) K ca_yX3_needMask ml_RX3_125 (t_X3_needMask _ K.nt K.ad s10 a4 (.ok v13) s14 h15) (Nat.le_of_ble_eq_true rfl) (by decide) (by decide) dX3_against_16 ?_
          refine v_iload4 (pc := 19) K dX3_against_19 ?_
          obtain ⟨t17, h19, h⟩ := bd h
          have hJ18 : V (mkX M YC E base 7 (rI r) σ') s14 35 [some (.ref (E.2.2 0)), some (.int a0), some (.int a1), some (.int a2), some (.int a3), some (.int a4), none] [.int t17] := by
            rcases xb h with ⟨v22, s23, h24, h⟩ | ⟨e25, s23, h24, hF⟩
            · refine v_cS1U (pc := 35) K ca_yX3_needArgument ml_RX3_73 (t_X3_needArgument _ K.nt K.ad s14 t17 (.ok v22) s23 h24) (Nat.le_of_ble_eq_true rfl) (by decide) (by decide) dX3_against_35 ?_
              refine v_aload0 (pc := 38) K dX3_against_38 ?_
              obtain ⟨v26, h27, h⟩ := bd h
              refine v_cV0U (pc := 39)  K ca_yX3_begin ml_RX3_115 (Nat.le_of_ble_eq_true rfl) rfl rfl (t_X3_begin _ K.nt K.ad s23 v26 h27) (Nat.le_of_ble_eq_true rfl) (by decide) (by decide) dX3_against_39 ?_
              refine v_ic0 (pc := 42) K dX3_against_42 ?_
              refine v_istore6 (pc := 43) K dX3_against_43 rfl (Nat.le_of_ble_eq_true rfl) ?_
              obtain ⟨r29, h31, h⟩ := bd h
              have hJ30 : V (mkX M YC E base 7 (rI r) σ') r29 117 [some (.ref (E.2.2 0)), some (.int a0), none, none, none, none, none] [] := by
                refine v_aload0 (pc := 117) K dX3_against_117 ?_
                refine v_iload1 (pc := 118) K dX3_against_118 ?_
                obtain ⟨v55, h56, h⟩ := bd h
                refine v_cV1I (pc := 119)  K ca_yX3_become ml_RX3_131 (Nat.le_of_ble_eq_true rfl) rfl rfl (t_X3_become _ K.nt K.ad r29 a0 v55 h56) (Nat.le_of_ble_eq_true rfl) (by decide) (by decide) dX3_against_119 ?_
                cases h
                exact v_iret (pc := 122) K dX3_against_122 rfl rfl
              clear h
              have hL57 := lpv h31 (fun s28 : Int32 × St => V (mkX M YC E base 7 (rI r) σ') s28.2 45 [some (.ref (E.2.2 0)), some (.int a0), some (.int a1), some (.int a2), some (.int a3), some (.int a4), some (.int s28.1)] [])
              refine hL57 (fun s28 o h hk => ?_)
              refine v_iload6 (pc := 45) K dX3_against_45 ?_
              refine v_aload0 (pc := 47) K dX3_against_47 ?_
              refine v_getR (pc := 48) K fl_RX3_14 dX3_against_48 (Nat.le_of_ble_eq_true rfl) rfl rfl ?_
              refine v_getI (pc := 51) K fl_RX3_76 dX3_against_51 (Nat.le_of_ble_eq_true rfl) rfl rfl ?_
              refine v_icmp_ge (pc := 54) (tgt := 117) K dX3_against_54 (by decide) (fun c35 => ?_) (fun c35 => ?_)
              · have h := it c35 h
                have e := lx h hk
                cases e
                exact v_fg [true, true, false, false, false, false, false] hJ30
              · have h := ie c35 h
                refine v_aload0 (pc := 57) K dX3_against_57 ?_
                refine v_getR (pc := 58) K fl_RX3_14 dX3_against_58 (Nat.le_of_ble_eq_true rfl) rfl rfl ?_
                refine v_iload2 (pc := 61) K dX3_against_61 ?_
                refine v_iload3 (pc := 62) K dX3_against_62 ?_
                refine v_iload6 (pc := 63) K dX3_against_63 ?_
                refine v_iload5 (pc := 65) K dX3_against_65 ?_
                obtain ⟨v36, h37, h⟩ := bd h
                refine v_cV4I (pc := 67)  K ca_yX1_areBothNumbered ml_RX3_158 (Nat.le_of_ble_eq_true rfl) rfl rfl (t_X1_areBothNumbered _ K.nt K.ad s28.2 a1 a2 s28.1 a4 v36 h37) (Nat.le_of_ble_eq_true rfl) (by decide) (by decide) dX3_against_67 ?_
                obtain ⟨t38, h40, h⟩ := bd h
                have hJ39 : V (mkX M YC E base 7 (rI r) σ') t38 111 [some (.ref (E.2.2 0)), some (.int a0), some (.int a1), some (.int a2), some (.int a3), some (.int a4), some (.int s28.1)] [] := by
                  refine v_iinc6 (pc := 111) (w := 1) K dX3_against_111 rfl (Nat.le_of_ble_eq_true rfl) (by decide) ?_
                  refine v_goto (pc := 114) (tgt := 45) K dX3_against_114 (by decide) ?_
                  have e := lfc h hk
                  exact e
                clear h
                have h := h40
                refine v_if_eq (pc := 70) (tgt := 111) K dX3_against_70 (by decide) (fun c41 => ?_) (fun c41 => ?_)
                · have h := it c41 h
                  cases h
                  exact hJ39
                · have h := ie c41 h
                  refine v_aload0 (pc := 73) K dX3_against_73 ?_
                  refine v_getR (pc := 74) K fl_RX3_14 dX3_against_74 (Nat.le_of_ble_eq_true rfl) rfl rfl ?_
                  refine v_getR (pc := 77) K fl_RX3_86 dX3_against_77 (Nat.le_of_ble_eq_true rfl) rfl rfl ?_
                  refine v_iload2 (pc := 80) K dX3_against_80 ?_
                  obtain ⟨j42, h43, h⟩ := bd h
                  refine v_aal (pc := 81) (b := 4) K dX3_against_81 (Nat.le_of_ble_eq_true rfl) rfl rfl h43 ?_
                  refine v_iload6 (pc := 82) K dX3_against_82 ?_
                  obtain ⟨j44, h45, h⟩ := bd h
                  refine v_laload (pc := 84) K dX3_against_84 (rowC' (ix_lt h43)) (rowC (ix_lt h43)) h45 ?_
                  refine v_iload4 (pc := 85) K dX3_against_85 ?_
                  refine v_aload0 (pc := 87) K dX3_against_87 ?_
                  refine v_getR (pc := 88) K fl_RX3_14 dX3_against_88 (Nat.le_of_ble_eq_true rfl) rfl rfl ?_
                  refine v_getR (pc := 91) K fl_RX3_86 dX3_against_91 (Nat.le_of_ble_eq_true rfl) rfl rfl ?_
                  refine v_iload3 (pc := 94) K dX3_against_94 ?_
                  obtain ⟨j46, h47, h⟩ := bd h
                  refine v_aal (pc := 95) (b := 4) K dX3_against_95 (Nat.le_of_ble_eq_true rfl) rfl rfl h47 ?_
                  refine v_iload6 (pc := 96) K dX3_against_96 ?_
                  obtain ⟨j48, h49, h⟩ := bd h
                  refine v_laload (pc := 98) K dX3_against_98 (rowC' (ix_lt h47)) (rowC (ix_lt h47)) h49 ?_
                  obtain ⟨v50, h51, h⟩ := bd h
                  refine v_cS3I (pc := 99)  K ca_yX3_stands ml_RX3_154 (t_X3_stands _ K.nt K.ad s28.2 (s28.2.2 (4 + j42) j44) a3 (s28.2.2 (4 + j46) j48) v50 h51) (Nat.le_of_ble_eq_true rfl) (by decide) (by decide) dX3_against_99 ?_
                  refine v_if_eq (pc := 102) (tgt := 111) K dX3_against_102 (by decide) (fun c52 => ?_) (fun c52 => ?_)
                  · have h := it c52 h
                    cases h
                    exact hJ39
                  · have h := ie c52 h
                    refine v_aload0 (pc := 105) K dX3_against_105 ?_
                    refine v_iload6 (pc := 106) K dX3_against_106 ?_
                    obtain ⟨v53, h54, h⟩ := bd h
                    refine v_cV1U (pc := 108)  K ca_yX3_include ml_RX3_122 (Nat.le_of_ble_eq_true rfl) rfl rfl (t_X3_include _ K.nt K.ad s28.2 s28.1 v53 h54) (Nat.le_of_ble_eq_true rfl) (by decide) (by decide) dX3_against_108 ?_
                    cases h
                    exact hJ39
            · cases hF
              exact v_cS1X (pc := 35)  K ca_yX3_needArgument ml_RX3_73 (t_X3_needArgument _ K.nt K.ad s14 t17 (.error e25) _ h24) (Nat.le_of_ble_eq_true rfl) (by decide) (by decide) dX3_against_35 hN rfl rfl
          clear h
          have h := h19
          refine v_if_lt (pc := 21) (tgt := 34) K dX3_against_21 (by decide) (fun c20 => ?_) (fun c20 => ?_)
          · have h := it c20 h
            refine v_ic0 (pc := 34) K dX3_against_34 ?_
            cases h
            exact hJ18
          · have h := ie c20 h
            refine v_iload4 (pc := 24) K dX3_against_24 ?_
            refine v_ic5 (pc := 26) K dX3_against_26 ?_
            refine v_icmp_gt (pc := 27) (tgt := 34) K dX3_against_27 (by decide) (fun c21 => ?_) (fun c21 => ?_)
            · have h := it c21 h
              refine v_ic0 (pc := 34) K dX3_against_34 ?_
              cases h
              exact hJ18
            · have h := ie c21 h
              refine v_ic1 (pc := 30) K dX3_against_30 ?_
              refine v_goto (pc := 31) (tgt := 35) K dX3_against_31 (by decide) ?_
              cases h
              exact hJ18
        · cases hF
          exact v_cS1X (pc := 16)  K ca_yX3_needMask ml_RX3_125 (t_X3_needMask _ K.nt K.ad s10 a4 (.error e16) _ h15) (Nat.le_of_ble_eq_true rfl) (by decide) (by decide) dX3_against_16 hN rfl rfl
      · cases hF
        exact v_cV1X (pc := 11)  K ca_yX3_needColumn ml_RX3_66 (Nat.le_of_ble_eq_true rfl) rfl rfl (t_X3_needColumn _ K.nt K.ad s6 a2 (.error e12) _ h11) (Nat.le_of_ble_eq_true rfl) (by decide) (by decide) dX3_against_11 hN rfl rfl
    · cases hF
      exact v_cV1X (pc := 6)  K ca_yX3_needColumn ml_RX3_66 (Nat.le_of_ble_eq_true rfl) rfl rfl (t_X3_needColumn _ K.nt K.ad s2 a1 (.error e8) _ h7) (Nat.le_of_ble_eq_true rfl) (by decide) (by decide) dX3_against_6 hN rfl rfl
  · cases hF
    exact v_cS1X (pc := 1)  K ca_yX3_needMask ml_RX3_125 (t_X3_needMask _ K.nt K.ad σ a0 (.error e4) _ h3) (Nat.le_of_ble_eq_true rfl) (by decide) (by decide) dX3_against_1 hN rfl rfl
set_option maxRecDepth 100000 in
def c_X3_empty (σ : St) (a0 : Int32) (a1 : Int32) (a2 : Int32) : Option (Except String Int32 × St) :=
  (xB (c_X3_needMask σ a0) fun _ s2 => (xB (c_X3_needColumn s2 a1) fun _ s6 => (xB (c_X3_needMask s6 a2) fun _ s10 => ((c_X3_begin s10).bind fun v13 => ((lp 5000 (fun (s15 : Int32 × St) => (if s15.2.1 1 0 ≤ s15.1 then some (.inr s15.2) else ((c_X1_isUnder s15.2 s15.1 a2).bind fun v23 => ((if v23 = 0 then some s15.2 else ((ix a1 6).bind fun j29 => ((ix s15.1 192).bind fun j31 => (if s15.2.2 (4 + j29) j31 = ((-9223372036854775808) : Int64) then ((c_X3_include s15.2 s15.1).bind fun v34 => some v34) else some s15.2)))).bind fun (t25 : St) => some (.inl ((s15.1 + 1), t25)))))) ((0 : Int32), v13)).bind fun (r16 : St) => ((c_X3_become r16 a0).bind fun v36 => some (.ok v36.1, v36.2)))))))
set_option maxHeartbeats 4000000 in
set_option maxRecDepth 100000 in
theorem t_X3_empty (l : Launch) (hnt : l.stackTraces = false) {E : Ev} {base : Nat} (hE : Adr YC E base) (σ : St) (a0 : Int32) (a1 : Int32) (a2 : Int32) (r : Except String Int32) (σ' : St) (h : c_X3_empty σ a0 a1 a2 = some (r, σ')) : Ctr l yX3_empty cX3_empty 5 (some .int) 7 121 YC E base [.ref (E.2.2 0), .int a0, .int a1, .int a2] σ (rI r) σ' := by
  unfold c_X3_empty at h
  refine ofV 1 (by decide +kernel) rfl hE hnt (Nat.le_of_ble_eq_true rfl) rfl (fun M hN K => ?_)
  refine v_iload1 (pc := 0) K dX3_empty_0 ?_
  rcases xb h with ⟨v1, s2, h3, h⟩ | ⟨e4, s2, h3, hF⟩
  · refine v_cS1U (pc := 1) K ca_yX3_needMask ml_RX3_125 (t_X3_needMask _ K.nt K.ad σ a0 (.ok v1) s2 h3) (Nat.le_of_ble_eq_true rfl) (by decide) (by decide) dX3_empty_1 ?_
    refine v_aload0 (pc := 4) K dX3_empty_4 ?_
    refine v_iload2 (pc := 5) K dX3_empty_5 ?_
    rcases xb h with ⟨v5, s6, h7, h⟩ | ⟨e8, s6, h7, hF⟩
    · refine v_cV1U (pc := 6) K ca_yX3_needColumn ml_RX3_66 (Nat.le_of_ble_eq_true rfl) rfl rfl (t_X3_needColumn _ K.nt K.ad s2 a1 (.ok v5) s6 h7) (Nat.le_of_ble_eq_true rfl) (by decide) (by decide) dX3_empty_6 ?_
      refine v_iload3 (pc := 9) K dX3_empty_9 ?_
      rcases xb h with ⟨v9, s10, h11, h⟩ | ⟨e12, s10, h11, hF⟩
      · refine v_cS1U (pc := 10) K ca_yX3_needMask ml_RX3_125 (t_X3_needMask _ K.nt K.ad s6 a2 (.ok v9) s10 h11) (Nat.le_of_ble_eq_true rfl) (by decide) (by decide) dX3_empty_10 ?_
        refine v_aload0 (pc := 13) K dX3_empty_13 ?_
        obtain ⟨v13, h14, h⟩ := bd h
        refine v_cV0U (pc := 14)  K ca_yX3_begin ml_RX3_115 (Nat.le_of_ble_eq_true rfl) rfl rfl (t_X3_begin _ K.nt K.ad s10 v13 h14) (Nat.le_of_ble_eq_true rfl) (by decide) (by decide) dX3_empty_14 ?_
        refine v_ic0 (pc := 17) K dX3_empty_17 ?_
        refine v_istore4 (pc := 18) K dX3_empty_18 rfl (Nat.le_of_ble_eq_true rfl) ?_
        obtain ⟨r16, h18, h⟩ := bd h
        have hJ17 : V (mkX M YC E base 5 (rI r) σ') r16 76 [some (.ref (E.2.2 0)), some (.int a0), none, none, none] [] := by
          refine v_aload0 (pc := 76) K dX3_empty_76 ?_
          refine v_iload1 (pc := 77) K dX3_empty_77 ?_
          obtain ⟨v36, h37, h⟩ := bd h
          refine v_cV1I (pc := 78)  K ca_yX3_become ml_RX3_131 (Nat.le_of_ble_eq_true rfl) rfl rfl (t_X3_become _ K.nt K.ad r16 a0 v36 h37) (Nat.le_of_ble_eq_true rfl) (by decide) (by decide) dX3_empty_78 ?_
          cases h
          exact v_iret (pc := 81) K dX3_empty_81 rfl rfl
        clear h
        have hL38 := lpv h18 (fun s15 : Int32 × St => V (mkX M YC E base 5 (rI r) σ') s15.2 20 [some (.ref (E.2.2 0)), some (.int a0), some (.int a1), some (.int a2), some (.int s15.1)] [])
        refine hL38 (fun s15 o h hk => ?_)
        refine v_iload4 (pc := 20) K dX3_empty_20 ?_
        refine v_aload0 (pc := 22) K dX3_empty_22 ?_
        refine v_getR (pc := 23) K fl_RX3_14 dX3_empty_23 (Nat.le_of_ble_eq_true rfl) rfl rfl ?_
        refine v_getI (pc := 26) K fl_RX3_76 dX3_empty_26 (Nat.le_of_ble_eq_true rfl) rfl rfl ?_
        refine v_icmp_ge (pc := 29) (tgt := 76) K dX3_empty_29 (by decide) (fun c22 => ?_) (fun c22 => ?_)
        · have h := it c22 h
          have e := lx h hk
          cases e
          exact v_fg [true, true, false, false, false] hJ17
        · have h := ie c22 h
          refine v_aload0 (pc := 32) K dX3_empty_32 ?_
          refine v_getR (pc := 33) K fl_RX3_14 dX3_empty_33 (Nat.le_of_ble_eq_true rfl) rfl rfl ?_
          refine v_iload4 (pc := 36) K dX3_empty_36 ?_
          refine v_iload3 (pc := 38) K dX3_empty_38 ?_
          obtain ⟨v23, h24, h⟩ := bd h
          refine v_cV2I (pc := 39)  K ca_yX1_isUnder ml_RX3_162 (Nat.le_of_ble_eq_true rfl) rfl rfl (t_X1_isUnder _ K.nt K.ad s15.2 s15.1 a2 v23 h24) (Nat.le_of_ble_eq_true rfl) (by decide) (by decide) dX3_empty_39 ?_
          obtain ⟨t25, h27, h⟩ := bd h
          have hJ26 : V (mkX M YC E base 5 (rI r) σ') t25 70 [some (.ref (E.2.2 0)), some (.int a0), some (.int a1), some (.int a2), some (.int s15.1)] [] := by
            refine v_iinc4 (pc := 70) (w := 1) K dX3_empty_70 rfl (Nat.le_of_ble_eq_true rfl) (by decide) ?_
            refine v_goto (pc := 73) (tgt := 20) K dX3_empty_73 (by decide) ?_
            have e := lfc h hk
            exact e
          clear h
          have h := h27
          refine v_if_eq (pc := 42) (tgt := 70) K dX3_empty_42 (by decide) (fun c28 => ?_) (fun c28 => ?_)
          · have h := it c28 h
            cases h
            exact hJ26
          · have h := ie c28 h
            refine v_aload0 (pc := 45) K dX3_empty_45 ?_
            refine v_getR (pc := 46) K fl_RX3_14 dX3_empty_46 (Nat.le_of_ble_eq_true rfl) rfl rfl ?_
            refine v_getR (pc := 49) K fl_RX3_86 dX3_empty_49 (Nat.le_of_ble_eq_true rfl) rfl rfl ?_
            refine v_iload2 (pc := 52) K dX3_empty_52 ?_
            obtain ⟨j29, h30, h⟩ := bd h
            refine v_aal (pc := 53) (b := 4) K dX3_empty_53 (Nat.le_of_ble_eq_true rfl) rfl rfl h30 ?_
            refine v_iload4 (pc := 54) K dX3_empty_54 ?_
            obtain ⟨j31, h32, h⟩ := bd h
            refine v_laload (pc := 56) K dX3_empty_56 (rowC' (ix_lt h30)) (rowC (ix_lt h30)) h32 ?_
            refine v_ldc2 (pc := 57) K dX3_empty_57 cl_RX3_90 ?_
            refine v_lc_ne (pc := 60) (tgt := 70) K dX3_empty_60 dX3_empty_61 (by decide) (fun c33 => ?_) (fun c33 => ?_)
            · have h := ie c33 h
              cases h
              exact hJ26
            · have h := it c33 h
              refine v_aload0 (pc := 64) K dX3_empty_64 ?_
              refine v_iload4 (pc := 65) K dX3_empty_65 ?_
              obtain ⟨v34, h35, h⟩ := bd h
              refine v_cV1U (pc := 67)  K ca_yX3_include ml_RX3_122 (Nat.le_of_ble_eq_true rfl) rfl rfl (t_X3_include _ K.nt K.ad s15.2 s15.1 v34 h35) (Nat.le_of_ble_eq_true rfl) (by decide) (by decide) dX3_empty_67 ?_
              cases h
              exact hJ26
      · cases hF
        exact v_cS1X (pc := 10)  K ca_yX3_needMask ml_RX3_125 (t_X3_needMask _ K.nt K.ad s6 a2 (.error e12) _ h11) (Nat.le_of_ble_eq_true rfl) (by decide) (by decide) dX3_empty_10 hN rfl rfl
    · cases hF
      exact v_cV1X (pc := 6)  K ca_yX3_needColumn ml_RX3_66 (Nat.le_of_ble_eq_true rfl) rfl rfl (t_X3_needColumn _ K.nt K.ad s2 a1 (.error e8) _ h7) (Nat.le_of_ble_eq_true rfl) (by decide) (by decide) dX3_empty_6 hN rfl rfl
  · cases hF
    exact v_cS1X (pc := 1)  K ca_yX3_needMask ml_RX3_125 (t_X3_needMask _ K.nt K.ad σ a0 (.error e4) _ h3) (Nat.le_of_ble_eq_true rfl) (by decide) (by decide) dX3_empty_1 hN rfl rfl
set_option maxRecDepth 100000 in
def c_X3_gather (σ : St) (a0 : Int32) (a1 : Int32) : Option (St) :=
  ((c_X0_restart σ).bind fun v1 => ((lp 5000 (fun (s3 : Int32 × St) => (if s3.2.1 1 0 ≤ s3.1 then some (.inr s3.2) else ((c_X1_isNumbered s3.2 a0 s3.1 a1).bind fun v11 => ((if v11 = 0 then some s3.2 else ((ix a0 6).bind fun j17 => ((ix s3.1 192).bind fun j19 => ((c_X0_take s3.2 s3.1 (s3.2.2 (4 + j17) j19)).bind fun v21 => some v21)))).bind fun (t13 : St) => some (.inl ((s3.1 + 1), t13)))))) ((0 : Int32), v1)).bind fun (r4 : St) => some r4))
set_option maxHeartbeats 4000000 in
set_option maxRecDepth 100000 in
theorem t_X3_gather (l : Launch) (hnt : l.stackTraces = false) {E : Ev} {base : Nat} (hE : Adr YC E base) (σ : St) (a0 : Int32) (a1 : Int32) (r : St) (h : c_X3_gather σ a0 a1 = some r) : Ctr l yX3_gather cX3_gather 4 none 3 66 YC E base [.ref (E.2.2 0), .int a0, .int a1] σ (.ok none) r := by
  unfold c_X3_gather at h
  refine ofV 1 (by decide +kernel) rfl hE hnt (Nat.le_of_ble_eq_true rfl) rfl (fun M hN K => ?_)
  refine v_aload0 (pc := 0) K dX3_gather_0 ?_
  refine v_getR (pc := 1) K fl_RX3_25 dX3_gather_1 (Nat.le_of_ble_eq_true rfl) rfl rfl ?_
  obtain ⟨v1, h2, h⟩ := bd h
  refine v_cV0U (pc := 4)  K ca_yX0_restart ml_RX3_271 (Nat.le_of_ble_eq_true rfl) rfl rfl (t_X0_restart _ K.nt K.ad σ v1 h2) (Nat.le_of_ble_eq_true rfl) (by decide) (by decide) dX3_gather_4 ?_
  refine v_ic0 (pc := 7) K dX3_gather_7 ?_
  refine v_istore3 (pc := 8) K dX3_gather_8 rfl (Nat.le_of_ble_eq_true rfl) ?_
  obtain ⟨r4, h6, h⟩ := bd h
  have hJ5 : V (mkX M YC E base 4 (.ok none) r) r4 58 [none, none, none, none] [] := by
    cases h
    exact v_vret (pc := 58) K dX3_gather_58 rfl rfl
  clear h
  have hL23 := lpv h6 (fun s3 : Int32 × St => V (mkX M YC E base 4 (.ok none) r) s3.2 9 [some (.ref (E.2.2 0)), some (.int a0), some (.int a1), some (.int s3.1)] [])
  refine hL23 (fun s3 o h hk => ?_)
  refine v_iload3 (pc := 9) K dX3_gather_9 ?_
  refine v_aload0 (pc := 10) K dX3_gather_10 ?_
  refine v_getR (pc := 11) K fl_RX3_14 dX3_gather_11 (Nat.le_of_ble_eq_true rfl) rfl rfl ?_
  refine v_getI (pc := 14) K fl_RX3_76 dX3_gather_14 (Nat.le_of_ble_eq_true rfl) rfl rfl ?_
  refine v_icmp_ge (pc := 17) (tgt := 58) K dX3_gather_17 (by decide) (fun c10 => ?_) (fun c10 => ?_)
  · have h := it c10 h
    have e := lx h hk
    cases e
    exact v_fg [false, false, false, false] hJ5
  · have h := ie c10 h
    refine v_aload0 (pc := 20) K dX3_gather_20 ?_
    refine v_getR (pc := 21) K fl_RX3_14 dX3_gather_21 (Nat.le_of_ble_eq_true rfl) rfl rfl ?_
    refine v_iload1 (pc := 24) K dX3_gather_24 ?_
    refine v_iload3 (pc := 25) K dX3_gather_25 ?_
    refine v_iload2 (pc := 26) K dX3_gather_26 ?_
    obtain ⟨v11, h12, h⟩ := bd h
    refine v_cV3I (pc := 27)  K ca_yX1_isNumbered ml_RX3_150 (Nat.le_of_ble_eq_true rfl) rfl rfl (t_X1_isNumbered _ K.nt K.ad s3.2 a0 s3.1 a1 v11 h12) (Nat.le_of_ble_eq_true rfl) (by decide) (by decide) dX3_gather_27 ?_
    obtain ⟨t13, h15, h⟩ := bd h
    have hJ14 : V (mkX M YC E base 4 (.ok none) r) t13 52 [some (.ref (E.2.2 0)), some (.int a0), some (.int a1), some (.int s3.1)] [] := by
      refine v_iinc3 (pc := 52) (w := 1) K dX3_gather_52 rfl (Nat.le_of_ble_eq_true rfl) (by decide) ?_
      refine v_goto (pc := 55) (tgt := 9) K dX3_gather_55 (by decide) ?_
      have e := lfc h hk
      exact e
    clear h
    have h := h15
    refine v_if_eq (pc := 30) (tgt := 52) K dX3_gather_30 (by decide) (fun c16 => ?_) (fun c16 => ?_)
    · have h := it c16 h
      cases h
      exact hJ14
    · have h := ie c16 h
      refine v_aload0 (pc := 33) K dX3_gather_33 ?_
      refine v_getR (pc := 34) K fl_RX3_25 dX3_gather_34 (Nat.le_of_ble_eq_true rfl) rfl rfl ?_
      refine v_iload3 (pc := 37) K dX3_gather_37 ?_
      refine v_aload0 (pc := 38) K dX3_gather_38 ?_
      refine v_getR (pc := 39) K fl_RX3_14 dX3_gather_39 (Nat.le_of_ble_eq_true rfl) rfl rfl ?_
      refine v_getR (pc := 42) K fl_RX3_86 dX3_gather_42 (Nat.le_of_ble_eq_true rfl) rfl rfl ?_
      refine v_iload1 (pc := 45) K dX3_gather_45 ?_
      obtain ⟨j17, h18, h⟩ := bd h
      refine v_aal (pc := 46) (b := 4) K dX3_gather_46 (Nat.le_of_ble_eq_true rfl) rfl rfl h18 ?_
      refine v_iload3 (pc := 47) K dX3_gather_47 ?_
      obtain ⟨j19, h20, h⟩ := bd h
      refine v_laload (pc := 48) K dX3_gather_48 (rowC' (ix_lt h18)) (rowC (ix_lt h18)) h20 ?_
      obtain ⟨v21, h22, h⟩ := bd h
      refine v_cV2U (pc := 49)  K ca_yX0_take ml_RX3_279 (Nat.le_of_ble_eq_true rfl) rfl rfl (t_X0_take _ K.nt K.ad s3.2 s3.1 (s3.2.2 (4 + j17) j19) v21 h22) (Nat.le_of_ble_eq_true rfl) (by decide) (by decide) dX3_gather_49 ?_
      cases h
      exact hJ14
set_option maxRecDepth 100000 in
def c_X0_isAhead (σ : St) (a0 : Int32) (a1 : Int32) (a2 : Int32) : Option (Int32) :=
  ((if a2 = 0 then ((ix a0 192).bind fun j5 => ((ix a1 192).bind fun j7 => (if σ.2 21 j7 ≤ σ.2 21 j5 then some (0 : Int32) else some (1 : Int32)))) else ((ix a0 192).bind fun j10 => ((ix a1 192).bind fun j12 => (if σ.2 21 j10 ≤ σ.2 21 j12 then some (0 : Int32) else some (1 : Int32))))).bind fun (t1 : Int32) => some (nz t1))
set_option maxHeartbeats 4000000 in
set_option maxRecDepth 100000 in
theorem t_X0_isAhead (l : Launch) (hnt : l.stackTraces = false) {E : Ev} {base : Nat} (hE : Adr YC E base) (σ : St) (a0 : Int32) (a1 : Int32) (a2 : Int32) (r : Int32) (h : c_X0_isAhead σ a0 a1 a2 = some r) : Ctr l yX0_isAhead cX0_isAhead 4 (some .boolean) 0 0 YC E base [.ref (E.2.2 19), .int a0, .int a1, .int a2] σ (.ok (some (.int r))) σ := by
  unfold c_X0_isAhead at h
  refine ofV 0 (by decide +kernel) rfl hE hnt (Nat.le_of_ble_eq_true rfl) rfl (fun M hN K => ?_)
  refine v_iload3 (pc := 0) K dX0_isAhead_0 ?_
  obtain ⟨t1, h3, h⟩ := bd h
  have hJ2 : V (mkX M YC E base 4 (.ok (some (.int r))) σ) σ 49 [none, none, none, none] [.int t1] := by
    cases h
    exact v_zret (pc := 49) K dX0_isAhead_49 rfl rfl
  clear h
  have h := h3
  refine v_if_eq (pc := 1) (tgt := 28) K dX0_isAhead_1 (by decide) (fun c4 => ?_) (fun c4 => ?_)
  · have h := it c4 h
    refine v_aload0 (pc := 28) K dX0_isAhead_28 ?_
    refine v_getR (pc := 29) K fl_RX0_15 dX0_isAhead_29 (Nat.le_of_ble_eq_true rfl) rfl rfl ?_
    refine v_iload1 (pc := 32) K dX0_isAhead_32 ?_
    obtain ⟨j5, h6, h⟩ := bd h
    refine v_laload (pc := 33) K dX0_isAhead_33 (Nat.le_of_ble_eq_true rfl) rfl h6 ?_
    refine v_aload0 (pc := 34) K dX0_isAhead_34 ?_
    refine v_getR (pc := 35) K fl_RX0_15 dX0_isAhead_35 (Nat.le_of_ble_eq_true rfl) rfl rfl ?_
    refine v_iload2 (pc := 38) K dX0_isAhead_38 ?_
    obtain ⟨j7, h8, h⟩ := bd h
    refine v_laload (pc := 39) K dX0_isAhead_39 (Nat.le_of_ble_eq_true rfl) rfl h8 ?_
    refine v_lc_ge (pc := 40) (tgt := 48) K dX0_isAhead_40 dX0_isAhead_41 (by decide) (fun c9 => ?_) (fun c9 => ?_)
    · have h := it c9 h
      refine v_ic0 (pc := 48) K dX0_isAhead_48 ?_
      cases h
      exact (v_fg [false, false, false, false] hJ2)
    · have h := ie c9 h
      refine v_ic1 (pc := 44) K dX0_isAhead_44 ?_
      refine v_goto (pc := 45) (tgt := 49) K dX0_isAhead_45 (by decide) ?_
      cases h
      exact (v_fg [false, false, false, false] hJ2)
  · have h := ie c4 h
    refine v_aload0 (pc := 4) K dX0_isAhead_4 ?_
    refine v_getR (pc := 5) K fl_RX0_15 dX0_isAhead_5 (Nat.le_of_ble_eq_true rfl) rfl rfl ?_
    refine v_iload1 (pc := 8) K dX0_isAhead_8 ?_
    obtain ⟨j10, h11, h⟩ := bd h
    refine v_laload (pc := 9) K dX0_isAhead_9 (Nat.le_of_ble_eq_true rfl) rfl h11 ?_
    refine v_aload0 (pc := 10) K dX0_isAhead_10 ?_
    refine v_getR (pc := 11) K fl_RX0_15 dX0_isAhead_11 (Nat.le_of_ble_eq_true rfl) rfl rfl ?_
    refine v_iload2 (pc := 14) K dX0_isAhead_14 ?_
    obtain ⟨j12, h13, h⟩ := bd h
    refine v_laload (pc := 15) K dX0_isAhead_15 (Nat.le_of_ble_eq_true rfl) rfl h13 ?_
    refine v_lc_le (pc := 16) (tgt := 24) K dX0_isAhead_16 dX0_isAhead_17 (by decide) (fun c14 => ?_) (fun c14 => ?_)
    · have h := it c14 h
      refine v_ic0 (pc := 24) K dX0_isAhead_24 ?_
      refine v_goto (pc := 25) (tgt := 49) K dX0_isAhead_25 (by decide) ?_
      cases h
      exact (v_fg [false, false, false, false] hJ2)
    · have h := ie c14 h
      refine v_ic1 (pc := 20) K dX0_isAhead_20 ?_
      refine v_goto (pc := 21) (tgt := 49) K dX0_isAhead_21 (by decide) ?_
      cases h
      exact (v_fg [false, false, false, false] hJ2)
set_option maxRecDepth 100000 in
def c_X0_merge (σ : St) (a0 : Int32) (a1 : Int32) (a2 : Int32) (a3 : Int32) : Option (Int32 × St) :=
  ((lp 5000 (fun (s1 : Int32 × Int32 × Int32 × Int32 × St) => (if a2 ≤ s1.2.2.2.1 then some (.inr (s1.1, s1.2.2.2.2)) else ((if a1 ≤ s1.2.1 then some (1 : Int32) else (if a2 ≤ s1.2.2.1 then some (0 : Int32) else ((c_X0_isAhead s1.2.2.2.2 s1.2.2.1 s1.2.1 a3).bind fun v14 => (if v14 = 0 then some (0 : Int32) else some (1 : Int32))))).bind fun (t9 : Int32) => ((if t9 = 0 then some s1.1 else some (s1.1 + (a1 - s1.2.1))).bind fun (t17 : Int32) => ((if t9 = 0 then some ((s1.2.1 + 1), s1.2.2.1, s1.2.1) else some (s1.2.1, (s1.2.2.1 + 1), s1.2.2.1)).bind fun (t21 : Int32 × Int32 × Int32) => ((ix t21.2.2 192).bind fun j25 => ((ix s1.2.2.2.1 192).bind fun j27 => ((ix t21.2.2 192).bind fun j29 => ((ix s1.2.2.2.1 192).bind fun j31 => some (.inl (t17, t21.1, t21.2.1, (s1.2.2.2.1 + 1), (sL (sI s1.2.2.2.2 22 j27 (s1.2.2.2.2.1 20 j25)) 23 j31 ((sI s1.2.2.2.2 22 j27 (s1.2.2.2.2.1 20 j25)).2 21 j29))))))))))))) ((0 : Int32), a0, a1, a0, σ)).bind fun (r2 : Int32 × St) => some (r2.1, r2.2))
set_option maxHeartbeats 4000000 in
set_option maxRecDepth 100000 in
theorem t_X0_merge (l : Launch) (hnt : l.stackTraces = false) {E : Ev} {base : Nat} (hE : Adr YC E base) (σ : St) (a0 : Int32) (a1 : Int32) (a2 : Int32) (a3 : Int32) (r : Int32 × St) (h : c_X0_merge σ a0 a1 a2 a3 = some r) : Ctr l yX0_merge cX0_merge 11 (some .int) 1 23 YC E base [.ref (E.2.2 19), .int a0, .int a1, .int a2, .int a3] σ (.ok (some (.int r.1))) r.2 := by
  unfold c_X0_merge at h
  refine ofV 6 (by decide +kernel) rfl hE hnt (Nat.le_of_ble_eq_true rfl) rfl (fun M hN K => ?_)
  refine v_ic0 (pc := 0) K dX0_merge_0 ?_
  refine v_istore5 (pc := 1) K dX0_merge_1 rfl (Nat.le_of_ble_eq_true rfl) ?_
  refine v_iload1 (pc := 3) K dX0_merge_3 ?_
  refine v_istore6 (pc := 4) K dX0_merge_4 rfl (Nat.le_of_ble_eq_true rfl) ?_
  refine v_iload2 (pc := 6) K dX0_merge_6 ?_
  refine v_istore7 (pc := 7) K dX0_merge_7 rfl (Nat.le_of_ble_eq_true rfl) ?_
  refine v_iload1 (pc := 9) K dX0_merge_9 ?_
  refine v_istore8 (pc := 10) K dX0_merge_10 rfl (Nat.le_of_ble_eq_true rfl) ?_
  obtain ⟨r2, h4, h⟩ := bd h
  have hJ3 : V (mkX M YC E base 11 (.ok (some (.int r.1))) r.2) r2.2 118 [none, none, none, none, none, some (.int r2.1), none, none, none, none, none] [] := by
    refine v_iload5 (pc := 118) K dX0_merge_118 ?_
    cases h
    exact v_iret (pc := 120) K dX0_merge_120 rfl rfl
  clear h
  refine v_fg [true, false, true, true, true, true, true, true, true, true, true] ?_
  have hL33 := lpv h4 (fun s1 : Int32 × Int32 × Int32 × Int32 × St => V (mkX M YC E base 11 (.ok (some (.int r.1))) r.2) s1.2.2.2.2 12 [some (.ref (E.2.2 19)), none, some (.int a1), some (.int a2), some (.int a3), some (.int s1.1), some (.int s1.2.1), some (.int s1.2.2.1), some (.int s1.2.2.2.1), none, none] [])
  refine hL33 (fun s1 o h hk => ?_)
  refine v_iload8 (pc := 12) K dX0_merge_12 ?_
  refine v_iload3 (pc := 14) K dX0_merge_14 ?_
  refine v_icmp_ge (pc := 15) (tgt := 118) K dX0_merge_15 (by decide) (fun c8 => ?_) (fun c8 => ?_)
  · have h := it c8 h
    have e := lx h hk
    cases e
    exact v_fg [false, true, false, false, false, true, false, false, false, true, true] hJ3
  · have h := ie c8 h
    refine v_iload6 (pc := 18) K dX0_merge_18 ?_
    refine v_iload2 (pc := 20) K dX0_merge_20 ?_
    obtain ⟨t9, h11, h⟩ := bd h
    have hJ10 : V (mkX M YC E base 11 (.ok (some (.int r.1))) r.2) s1.2.2.2.2 48 [some (.ref (E.2.2 19)), none, some (.int a1), some (.int a2), some (.int a3), some (.int s1.1), some (.int s1.2.1), some (.int s1.2.2.1), some (.int s1.2.2.2.1), none, none] [.int t9] := by
      refine v_istore9 (pc := 48) K dX0_merge_48 rfl (Nat.le_of_ble_eq_true rfl) ?_
      refine v_iload9 (pc := 50) K dX0_merge_50 ?_
      obtain ⟨t17, h19, h⟩ := bd h
      have hJ18 : V (mkX M YC E base 11 (.ok (some (.int r.1))) r.2) s1.2.2.2.2 64 [some (.ref (E.2.2 19)), none, some (.int a1), some (.int a2), some (.int a3), some (.int t17), some (.int s1.2.1), some (.int s1.2.2.1), some (.int s1.2.2.2.1), some (.int t9), none] [] := by
        refine v_iload9 (pc := 64) K dX0_merge_64 ?_
        obtain ⟨t21, h23, h⟩ := bd h
        have hJ22 : V (mkX M YC E base 11 (.ok (some (.int r.1))) r.2) s1.2.2.2.2 82 [some (.ref (E.2.2 19)), none, some (.int a1), some (.int a2), some (.int a3), some (.int t17), some (.int t21.1), some (.int t21.2.1), some (.int s1.2.2.2.1), none, none] [.int t21.2.2] := by
          refine v_istore10 (pc := 82) K dX0_merge_82 rfl (Nat.le_of_ble_eq_true rfl) ?_
          refine v_aload0 (pc := 84) K dX0_merge_84 ?_
          refine v_getR (pc := 85) K fl_RX0_19 dX0_merge_85 (Nat.le_of_ble_eq_true rfl) rfl rfl ?_
          refine v_iload8 (pc := 88) K dX0_merge_88 ?_
          refine v_aload0 (pc := 90) K dX0_merge_90 ?_
          refine v_getR (pc := 91) K fl_RX0_9 dX0_merge_91 (Nat.le_of_ble_eq_true rfl) rfl rfl ?_
          refine v_iload10 (pc := 94) K dX0_merge_94 ?_
          obtain ⟨j25, h26, h⟩ := bd h
          refine v_iaload (pc := 96) K dX0_merge_96 (Nat.le_of_ble_eq_true rfl) rfl h26 ?_
          obtain ⟨j27, h28, h⟩ := bd h
          refine v_iastore (pc := 97) K dX0_merge_97 (Nat.le_of_ble_eq_true rfl) rfl h28 ?_
          refine v_aload0 (pc := 98) K dX0_merge_98 ?_
          refine v_getR (pc := 99) K fl_RX0_22 dX0_merge_99 (Nat.le_of_ble_eq_true rfl) rfl rfl ?_
          refine v_iload8 (pc := 102) K dX0_merge_102 ?_
          refine v_aload0 (pc := 104) K dX0_merge_104 ?_
          refine v_getR (pc := 105) K fl_RX0_15 dX0_merge_105 (Nat.le_of_ble_eq_true rfl) rfl rfl ?_
          refine v_iload10 (pc := 108) K dX0_merge_108 ?_
          obtain ⟨j29, h30, h⟩ := bd h
          refine v_laload (pc := 110) K dX0_merge_110 (Nat.le_of_ble_eq_true rfl) rfl h30 ?_
          obtain ⟨j31, h32, h⟩ := bd h
          refine v_lastore (pc := 111) K dX0_merge_111 (Nat.le_of_ble_eq_true rfl) rfl h32 ?_
          refine v_iinc8 (pc := 112) (w := 1) K dX0_merge_112 rfl (Nat.le_of_ble_eq_true rfl) (by decide) ?_
          refine v_goto (pc := 115) (tgt := 12) K dX0_merge_115 (by decide) ?_
          have e := lfc h hk
          exact v_fg [true, true, true, true, true, true, true, true, true, true, false] e
        clear h
        have h := h23
        refine v_if_eq (pc := 66) (tgt := 77) K dX0_merge_66 (by decide) (fun c24 => ?_) (fun c24 => ?_)
        · have h := it c24 h
          refine v_iload6 (pc := 77) K dX0_merge_77 ?_
          refine v_iinc6 (pc := 79) (w := 1) K dX0_merge_79 rfl (Nat.le_of_ble_eq_true rfl) (by decide) ?_
          cases h
          exact (v_fg [true, true, true, true, true, true, true, true, true, false, true] hJ22)
        · have h := ie c24 h
          refine v_iload7 (pc := 69) K dX0_merge_69 ?_
          refine v_iinc7 (pc := 71) (w := 1) K dX0_merge_71 rfl (Nat.le_of_ble_eq_true rfl) (by decide) ?_
          refine v_goto (pc := 74) (tgt := 82) K dX0_merge_74 (by decide) ?_
          cases h
          exact (v_fg [true, true, true, true, true, true, true, true, true, false, true] hJ22)
      clear h
      have h := h19
      refine v_if_eq (pc := 52) (tgt := 64) K dX0_merge_52 (by decide) (fun c20 => ?_) (fun c20 => ?_)
      · have h := it c20 h
        cases h
        exact hJ18
      · have h := ie c20 h
        refine v_iload5 (pc := 55) K dX0_merge_55 ?_
        refine v_iload2 (pc := 57) K dX0_merge_57 ?_
        refine v_iload6 (pc := 58) K dX0_merge_58 ?_
        refine v_isub (pc := 60) K dX0_merge_60 ?_
        refine v_iadd (pc := 61) K dX0_merge_61 ?_
        refine v_istore5 (pc := 62) K dX0_merge_62 rfl (Nat.le_of_ble_eq_true rfl) ?_
        cases h
        exact hJ18
    clear h
    have h := h11
    refine v_icmp_ge (pc := 21) (tgt := 43) K dX0_merge_21 (by decide) (fun c12 => ?_) (fun c12 => ?_)
    · have h := it c12 h
      refine v_ic1 (pc := 43) K dX0_merge_43 ?_
      refine v_goto (pc := 44) (tgt := 48) K dX0_merge_44 (by decide) ?_
      cases h
      exact hJ10
    · have h := ie c12 h
      refine v_iload7 (pc := 24) K dX0_merge_24 ?_
      refine v_iload3 (pc := 26) K dX0_merge_26 ?_
      refine v_icmp_ge (pc := 27) (tgt := 47) K dX0_merge_27 (by decide) (fun c13 => ?_) (fun c13 => ?_)
      · have h := it c13 h
        refine v_ic0 (pc := 47) K dX0_merge_47 ?_
        cases h
        exact hJ10
      · have h := ie c13 h
        refine v_aload0 (pc := 30) K dX0_merge_30 ?_
        refine v_iload7 (pc := 31) K dX0_merge_31 ?_
        refine v_iload6 (pc := 33) K dX0_merge_33 ?_
        refine v_iload4 (pc := 35) K dX0_merge_35 ?_
        obtain ⟨v14, h15, h⟩ := bd h
        refine v_cV3I (pc := 37)  K ca_yX0_isAhead ml_RX0_51 (Nat.le_of_ble_eq_true rfl) rfl rfl (t_X0_isAhead _ K.nt K.ad s1.2.2.2.2 s1.2.2.1 s1.2.1 a3 v14 h15) (Nat.le_of_ble_eq_true rfl) (by decide) (by decide) dX0_merge_37 ?_
        refine v_if_eq (pc := 40) (tgt := 47) K dX0_merge_40 (by decide) (fun c16 => ?_) (fun c16 => ?_)
        · have h := it c16 h
          refine v_ic0 (pc := 47) K dX0_merge_47 ?_
          cases h
          exact hJ10
        · have h := ie c16 h
          refine v_ic1 (pc := 43) K dX0_merge_43 ?_
          refine v_goto (pc := 44) (tgt := 48) K dX0_merge_44 (by decide) ?_
          cases h
          exact hJ10
set_option maxRecDepth 100000 in
def c_X0_putInOrder (σ : St) (a0 : Int32) : Option (Int32 × St) :=
  ((lp 5000 (fun (s1 : Int32 × Int32 × St) => (if s1.2.2.1 19 0 ≤ s1.2.1 then some (.inr (s1.1, s1.2.2)) else ((lp 5000 (fun (s9 : Int32 × Int32 × St) => (if s9.2.2.1 19 0 ≤ s9.2.1 then some (.inr (s9.1, s9.2.2)) else ((c_J9_min_7cf53 s9.2.2 (s9.2.1 + s1.2.1) (s9.2.2.1 19 0)).bind fun v17 => ((c_J9_min_7cf53 s9.2.2 (v17 + s1.2.1) (s9.2.2.1 19 0)).bind fun v19 => ((c_X0_merge s9.2.2 s9.2.1 v17 v19 a0).bind fun v21 => some (.inl ((s9.1 + v21.1), (s9.2.1 + ((2 : Int32) * s1.2.1)), v21.2))))))) (s1.1, (0 : Int32), s1.2.2)).bind fun (r10 : Int32 × St) => ((cpn (r10.2.1 19 0) 192 192).bind fun k23 => ((cpn ((cpI r10.2 22 20 k23).1 19 0) 192 192).bind fun k25 => some (.inl (r10.1, (s1.2.1 + s1.2.1), (cpL (cpI r10.2 22 20 k23) 23 21 k25)))))))) ((0 : Int32), (1 : Int32), σ)).bind fun (r2 : Int32 × St) => some (r2.1, r2.2))
set_option maxHeartbeats 4000000 in
set_option maxRecDepth 100000 in
theorem t_X0_putInOrder (l : Launch) (hnt : l.stackTraces = false) {E : Ev} {base : Nat} (hE : Adr YC E base) (σ : St) (a0 : Int32) (r : Int32 × St) (h : c_X0_putInOrder σ a0 = some r) : Ctr l yX0_putInOrder cX0_putInOrder 6 (some .int) 2 60 YC E base [.ref (E.2.2 19), .int a0] σ (.ok (some (.int r.1))) r.2 := by
  unfold c_X0_putInOrder at h
  refine ofV 4 (by decide +kernel) rfl hE hnt (Nat.le_of_ble_eq_true rfl) rfl (fun M hN K => ?_)
  refine v_ic0 (pc := 0) K dX0_putInOrder_0 ?_
  refine v_istore2 (pc := 1) K dX0_putInOrder_1 rfl (Nat.le_of_ble_eq_true rfl) ?_
  refine v_ic1 (pc := 2) K dX0_putInOrder_2 ?_
  refine v_istore3 (pc := 3) K dX0_putInOrder_3 rfl (Nat.le_of_ble_eq_true rfl) ?_
  obtain ⟨r2, h4, h⟩ := bd h
  have hJ3 : V (mkX M YC E base 6 (.ok (some (.int r.1))) r.2) r2.2 112 [none, none, some (.int r2.1), none, none, none] [] := by
    refine v_iload2 (pc := 112) K dX0_putInOrder_112 ?_
    cases h
    exact v_iret (pc := 113) K dX0_putInOrder_113 rfl rfl
  clear h
  have hL28 := lpv h4 (fun s1 : Int32 × Int32 × St => V (mkX M YC E base 6 (.ok (some (.int r.1))) r.2) s1.2.2 4 [some (.ref (E.2.2 19)), some (.int a0), some (.int s1.1), some (.int s1.2.1), none, none] [])
  refine hL28 (fun s1 o h hk => ?_)
  refine v_iload3 (pc := 4) K dX0_putInOrder_4 ?_
  refine v_aload0 (pc := 5) K dX0_putInOrder_5 ?_
  refine v_getI (pc := 6) K fl_RX0_25 dX0_putInOrder_6 (Nat.le_of_ble_eq_true rfl) rfl rfl ?_
  refine v_icmp_ge (pc := 9) (tgt := 112) K dX0_putInOrder_9 (by decide) (fun c8 => ?_) (fun c8 => ?_)
  · have h := it c8 h
    have e := lx h hk
    cases e
    exact v_fg [false, false, true, false, true, true] hJ3
  · have h := ie c8 h
    refine v_ic0 (pc := 12) K dX0_putInOrder_12 ?_
    refine v_istore4 (pc := 13) K dX0_putInOrder_13 rfl (Nat.le_of_ble_eq_true rfl) ?_
    obtain ⟨r10, h12, h⟩ := bd h
    have hJ11 : V (mkX M YC E base 6 (.ok (some (.int r.1))) r.2) r10.2 71 [some (.ref (E.2.2 19)), some (.int a0), some (.int r10.1), some (.int s1.2.1), none, none] [] := by
      refine v_aload0 (pc := 71) K dX0_putInOrder_71 ?_
      refine v_getR (pc := 72) K fl_RX0_19 dX0_putInOrder_72 (Nat.le_of_ble_eq_true rfl) rfl rfl ?_
      refine v_ic0 (pc := 75) K dX0_putInOrder_75 ?_
      refine v_aload0 (pc := 76) K dX0_putInOrder_76 ?_
      refine v_getR (pc := 77) K fl_RX0_9 dX0_putInOrder_77 (Nat.le_of_ble_eq_true rfl) rfl rfl ?_
      refine v_ic0 (pc := 80) K dX0_putInOrder_80 ?_
      refine v_aload0 (pc := 81) K dX0_putInOrder_81 ?_
      refine v_getI (pc := 82) K fl_RX0_25 dX0_putInOrder_82 (Nat.le_of_ble_eq_true rfl) rfl rfl ?_
      obtain ⟨k23, h24, h⟩ := bd h
      refine v_copyI (pc := 85) K ac_RX0_45 dX0_putInOrder_85 (Nat.le_of_ble_eq_true rfl) rfl (Nat.le_of_ble_eq_true rfl) rfl h24 (by decide) (Nat.le_trans nat_words (by decide)) ?_
      refine v_aload0 (pc := 88) K dX0_putInOrder_88 ?_
      refine v_getR (pc := 89) K fl_RX0_22 dX0_putInOrder_89 (Nat.le_of_ble_eq_true rfl) rfl rfl ?_
      refine v_ic0 (pc := 92) K dX0_putInOrder_92 ?_
      refine v_aload0 (pc := 93) K dX0_putInOrder_93 ?_
      refine v_getR (pc := 94) K fl_RX0_15 dX0_putInOrder_94 (Nat.le_of_ble_eq_true rfl) rfl rfl ?_
      refine v_ic0 (pc := 97) K dX0_putInOrder_97 ?_
      refine v_aload0 (pc := 98) K dX0_putInOrder_98 ?_
      refine v_getI (pc := 99) K fl_RX0_25 dX0_putInOrder_99 (Nat.le_of_ble_eq_true rfl) rfl rfl ?_
      obtain ⟨k25, h26, h⟩ := bd h
      refine v_copyL (pc := 102) K ac_RX0_45 dX0_putInOrder_102 (Nat.le_of_ble_eq_true rfl) rfl (Nat.le_of_ble_eq_true rfl) rfl h26 (by decide) (Nat.le_trans nat_words (by decide)) ?_
      refine v_iload3 (pc := 105) K dX0_putInOrder_105 ?_
      refine v_iload3 (pc := 106) K dX0_putInOrder_106 ?_
      refine v_iadd (pc := 107) K dX0_putInOrder_107 ?_
      refine v_istore3 (pc := 108) K dX0_putInOrder_108 rfl (Nat.le_of_ble_eq_true rfl) ?_
      refine v_goto (pc := 109) (tgt := 4) K dX0_putInOrder_109 (by decide) ?_
      have e := lfc h hk
      exact e
    clear h
    have hL27 := lpv h12 (fun s9 : Int32 × Int32 × St => V (mkX M YC E base 6 (.ok (some (.int r.1))) r.2) s9.2.2 15 [some (.ref (E.2.2 19)), some (.int a0), some (.int s9.1), some (.int s1.2.1), some (.int s9.2.1), none] [])
    refine hL27 (fun s9 o h hk => ?_)
    refine v_iload4 (pc := 15) K dX0_putInOrder_15 ?_
    refine v_aload0 (pc := 17) K dX0_putInOrder_17 ?_
    refine v_getI (pc := 18) K fl_RX0_25 dX0_putInOrder_18 (Nat.le_of_ble_eq_true rfl) rfl rfl ?_
    refine v_icmp_ge (pc := 21) (tgt := 71) K dX0_putInOrder_21 (by decide) (fun c16 => ?_) (fun c16 => ?_)
    · have h := it c16 h
      have e := lx h hk
      cases e
      exact v_fg [true, true, true, true, false, true] hJ11
    · have h := ie c16 h
      refine v_iload4 (pc := 24) K dX0_putInOrder_24 ?_
      refine v_iload3 (pc := 26) K dX0_putInOrder_26 ?_
      refine v_iadd (pc := 27) K dX0_putInOrder_27 ?_
      refine v_aload0 (pc := 28) K dX0_putInOrder_28 ?_
      refine v_getI (pc := 29) K fl_RX0_25 dX0_putInOrder_29 (Nat.le_of_ble_eq_true rfl) rfl rfl ?_
      obtain ⟨v17, h18, h⟩ := bd h
      refine v_cS2I (pc := 32)  K ca_yJ9_min_7cf53 ml_RX0_35 (t_J9_min_7cf53 _ K.nt K.ad s9.2.2 (s9.2.1 + s1.2.1) (s9.2.2.1 19 0) v17 h18) (Nat.le_of_ble_eq_true rfl) (by decide) (by decide) dX0_putInOrder_32 ?_
      refine v_istore5 (pc := 35) K dX0_putInOrder_35 rfl (Nat.le_of_ble_eq_true rfl) ?_
      refine v_iload2 (pc := 37) K dX0_putInOrder_37 ?_
      refine v_aload0 (pc := 38) K dX0_putInOrder_38 ?_
      refine v_iload4 (pc := 39) K dX0_putInOrder_39 ?_
      refine v_iload5 (pc := 41) K dX0_putInOrder_41 ?_
      refine v_iload5 (pc := 43) K dX0_putInOrder_43 ?_
      refine v_iload3 (pc := 45) K dX0_putInOrder_45 ?_
      refine v_iadd (pc := 46) K dX0_putInOrder_46 ?_
      refine v_aload0 (pc := 47) K dX0_putInOrder_47 ?_
      refine v_getI (pc := 48) K fl_RX0_25 dX0_putInOrder_48 (Nat.le_of_ble_eq_true rfl) rfl rfl ?_
      obtain ⟨v19, h20, h⟩ := bd h
      refine v_cS2I (pc := 51)  K ca_yJ9_min_7cf53 ml_RX0_35 (t_J9_min_7cf53 _ K.nt K.ad s9.2.2 (v17 + s1.2.1) (s9.2.2.1 19 0) v19 h20) (Nat.le_of_ble_eq_true rfl) (by decide) (by decide) dX0_putInOrder_51 ?_
      refine v_iload1 (pc := 54) K dX0_putInOrder_54 ?_
      obtain ⟨v21, h22, h⟩ := bd h
      refine v_cV4I (pc := 55)  K ca_yX0_merge ml_RX0_41 (Nat.le_of_ble_eq_true rfl) rfl rfl (t_X0_merge _ K.nt K.ad s9.2.2 s9.2.1 v17 v19 a0 v21 h22) (Nat.le_of_ble_eq_true rfl) (by decide) (by decide) dX0_putInOrder_55 ?_
      refine v_iadd (pc := 58) K dX0_putInOrder_58 ?_
      refine v_istore2 (pc := 59) K dX0_putInOrder_59 rfl (Nat.le_of_ble_eq_true rfl) ?_
      refine v_iload4 (pc := 60) K dX0_putInOrder_60 ?_
      refine v_ic2 (pc := 62) K dX0_putInOrder_62 ?_
      refine v_iload3 (pc := 63) K dX0_putInOrder_63 ?_
      refine v_imul (pc := 64) K dX0_putInOrder_64 ?_
      refine v_iadd (pc := 65) K dX0_putInOrder_65 ?_
      refine v_istore4 (pc := 66) K dX0_putInOrder_66 rfl (Nat.le_of_ble_eq_true rfl) ?_
      refine v_goto (pc := 68) (tgt := 15) K dX0_putInOrder_68 (by decide) ?_
      have e := lfc h hk
      exact v_fg [true, true, true, true, true, false] e
set_option maxRecDepth 100000 in
def c_X3_top (σ : St) (a0 : Int32) (a1 : Int32) (a2 : Int32) (a3 : Int32) : Option (Except String Int32 × St) :=
  (xB (c_X3_needMask σ a0) fun _ s2 => (xB (c_X3_needColumn s2 a1) fun _ s6 => (xB (c_X3_needMask s6 a2) fun _ s10 => ((if a3 < 0 then some (0 : Int32) else some (1 : Int32)).bind fun (t13 : Int32) => (xB (c_X3_needArgument s10 t13) fun _ s18 => ((c_X3_gather s18 a1 a2).bind fun v21 => ((c_X0_putInOrder v21 (1 : Int32)).bind fun v23 => ((c_X3_begin v23.2).bind fun v25 => ((lp 5000 (fun (s27 : Int32 × St) => (if s27.2.1 19 0 ≤ s27.1 then some (.inr s27.2) else (if a3 ≤ s27.1 then some (.inr s27.2) else ((ix s27.1 192).bind fun j36 => ((c_X3_include s27.2 (s27.2.1 20 j36)).bind fun v38 => some (.inl ((s27.1 + 1), v38))))))) ((0 : Int32), v25)).bind fun (r28 : St) => ((c_X3_become r28 a0).bind fun v40 => some (.ok v40.1, v40.2)))))))))))
set_option maxHeartbeats 4000000 in
set_option maxRecDepth 100000 in
theorem t_X3_top (l : Launch) (hnt : l.stackTraces = false) {E : Ev} {base : Nat} (hE : Adr YC E base) (σ : St) (a0 : Int32) (a1 : Int32) (a2 : Int32) (a3 : Int32) (r : Except String Int32) (σ' : St) (h : c_X3_top σ a0 a1 a2 a3 = some (r, σ')) : Ctr l yX3_top cX3_top 6 (some .int) 7 121 YC E base [.ref (E.2.2 0), .int a0, .int a1, .int a2, .int a3] σ (rI r) σ' := by
  unfold c_X3_top at h
  refine ofV 1 (by decide +kernel) rfl hE hnt (Nat.le_of_ble_eq_true rfl) rfl (fun M hN K => ?_)
  refine v_iload1 (pc := 0) K dX3_top_0 ?_
  rcases xb h with ⟨v1, s2, h3, h⟩ | ⟨e4, s2, h3, hF⟩
  · refine v_cS1U (pc := 1) K ca_yX3_needMask ml_RX3_125 (t_X3_needMask _ K.nt K.ad σ a0 (.ok v1) s2 h3) (Nat.le_of_ble_eq_true rfl) (by decide) (by decide) dX3_top_1 ?_
    refine v_aload0 (pc := 4) K dX3_top_4 ?_
    refine v_iload2 (pc := 5) K dX3_top_5 ?_
    rcases xb h with ⟨v5, s6, h7, h⟩ | ⟨e8, s6, h7, hF⟩
    · refine v_cV1U (pc := 6) K ca_yX3_needColumn ml_RX3_66 (Nat.le_of_ble_eq_true rfl) rfl rfl (t_X3_needColumn _ K.nt K.ad s2 a1 (.ok v5) s6 h7) (Nat.le_of_ble_eq_true rfl) (by decide) (by decide) dX3_top_6 ?_
      refine v_iload3 (pc := 9) K dX3_top_9 ?_
      rcases xb h with ⟨v9, s10, h11, h⟩ | ⟨e12, s10, h11, hF⟩
      · refine v_cS1U (pc := 10) K ca_yX3_needMask ml_RX3_125 (t_X3_needMask _ K.nt K.ad s6 a2 (.ok v9) s10 h11) (Nat.le_of_ble_eq_true rfl) (by decide) (by decide) dX3_top_10 ?_
        refine v_iload4 (pc := 13) K dX3_top_13 ?_
        obtain ⟨t13, h15, h⟩ := bd h
        have hJ14 : V (mkX M YC E base 6 (rI r) σ') s10 23 [some (.ref (E.2.2 0)), some (.int a0), some (.int a1), some (.int a2), some (.int a3), none] [.int t13] := by
          rcases xb h with ⟨v17, s18, h19, h⟩ | ⟨e20, s18, h19, hF⟩
          · refine v_cS1U (pc := 23) K ca_yX3_needArgument ml_RX3_73 (t_X3_needArgument _ K.nt K.ad s10 t13 (.ok v17) s18 h19) (Nat.le_of_ble_eq_true rfl) (by decide) (by decide) dX3_top_23 ?_
            refine v_aload0 (pc := 26) K dX3_top_26 ?_
            refine v_iload2 (pc := 27) K dX3_top_27 ?_
            refine v_iload3 (pc := 28) K dX3_top_28 ?_
            obtain ⟨v21, h22, h⟩ := bd h
            refine v_cV2U (pc := 29)  K ca_yX3_gather ml_RX3_166 (Nat.le_of_ble_eq_true rfl) rfl rfl (t_X3_gather _ K.nt K.ad s18 a1 a2 v21 h22) (Nat.le_of_ble_eq_true rfl) (by decide) (by decide) dX3_top_29 ?_
            refine v_aload0 (pc := 32) K dX3_top_32 ?_
            refine v_getR (pc := 33) K fl_RX3_25 dX3_top_33 (Nat.le_of_ble_eq_true rfl) rfl rfl ?_
            refine v_ic1 (pc := 36) K dX3_top_36 ?_
            obtain ⟨v23, h24, h⟩ := bd h
            refine v_cV1I (pc := 37)  K ca_yX0_putInOrder ml_RX3_169 (Nat.le_of_ble_eq_true rfl) rfl rfl (t_X0_putInOrder _ K.nt K.ad v21 (1 : Int32) v23 h24) (Nat.le_of_ble_eq_true rfl) (by decide) (by decide) dX3_top_37 ?_
            refine v_popI (pc := 40) K dX3_top_40 ?_
            refine v_aload0 (pc := 41) K dX3_top_41 ?_
            obtain ⟨v25, h26, h⟩ := bd h
            refine v_cV0U (pc := 42)  K ca_yX3_begin ml_RX3_115 (Nat.le_of_ble_eq_true rfl) rfl rfl (t_X3_begin _ K.nt K.ad v23.2 v25 h26) (Nat.le_of_ble_eq_true rfl) (by decide) (by decide) dX3_top_42 ?_
            refine v_ic0 (pc := 45) K dX3_top_45 ?_
            refine v_istore5 (pc := 46) K dX3_top_46 rfl (Nat.le_of_ble_eq_true rfl) ?_
            obtain ⟨r28, h30, h⟩ := bd h
            have hJ29 : V (mkX M YC E base 6 (rI r) σ') r28 87 [some (.ref (E.2.2 0)), some (.int a0), none, none, none, none] [] := by
              refine v_aload0 (pc := 87) K dX3_top_87 ?_
              refine v_iload1 (pc := 88) K dX3_top_88 ?_
              obtain ⟨v40, h41, h⟩ := bd h
              refine v_cV1I (pc := 89)  K ca_yX3_become ml_RX3_131 (Nat.le_of_ble_eq_true rfl) rfl rfl (t_X3_become _ K.nt K.ad r28 a0 v40 h41) (Nat.le_of_ble_eq_true rfl) (by decide) (by decide) dX3_top_89 ?_
              cases h
              exact v_iret (pc := 92) K dX3_top_92 rfl rfl
            clear h
            refine v_fg [true, true, false, false, true, true] ?_
            have hL42 := lpv h30 (fun s27 : Int32 × St => V (mkX M YC E base 6 (rI r) σ') s27.2 48 [some (.ref (E.2.2 0)), some (.int a0), none, none, some (.int a3), some (.int s27.1)] [])
            refine hL42 (fun s27 o h hk => ?_)
            refine v_iload5 (pc := 48) K dX3_top_48 ?_
            refine v_aload0 (pc := 50) K dX3_top_50 ?_
            refine v_getR (pc := 51) K fl_RX3_25 dX3_top_51 (Nat.le_of_ble_eq_true rfl) rfl rfl ?_
            refine v_getI (pc := 54) K fl_RX3_173 dX3_top_54 (Nat.le_of_ble_eq_true rfl) rfl rfl ?_
            refine v_icmp_ge (pc := 57) (tgt := 87) K dX3_top_57 (by decide) (fun c34 => ?_) (fun c34 => ?_)
            · have h := it c34 h
              have e := lx h hk
              cases e
              exact v_fg [true, true, true, true, false, false] hJ29
            · have h := ie c34 h
              refine v_iload5 (pc := 60) K dX3_top_60 ?_
              refine v_iload4 (pc := 62) K dX3_top_62 ?_
              refine v_icmp_ge (pc := 64) (tgt := 87) K dX3_top_64 (by decide) (fun c35 => ?_) (fun c35 => ?_)
              · have h := it c35 h
                have e := lx h hk
                cases e
                exact v_fg [true, true, true, true, false, false] hJ29
              · have h := ie c35 h
                refine v_aload0 (pc := 67) K dX3_top_67 ?_
                refine v_aload0 (pc := 68) K dX3_top_68 ?_
                refine v_getR (pc := 69) K fl_RX3_25 dX3_top_69 (Nat.le_of_ble_eq_true rfl) rfl rfl ?_
                refine v_getR (pc := 72) K fl_RX3_176 dX3_top_72 (Nat.le_of_ble_eq_true rfl) rfl rfl ?_
                refine v_iload5 (pc := 75) K dX3_top_75 ?_
                obtain ⟨j36, h37, h⟩ := bd h
                refine v_iaload (pc := 77) K dX3_top_77 (Nat.le_of_ble_eq_true rfl) rfl h37 ?_
                obtain ⟨v38, h39, h⟩ := bd h
                refine v_cV1U (pc := 78)  K ca_yX3_include ml_RX3_122 (Nat.le_of_ble_eq_true rfl) rfl rfl (t_X3_include _ K.nt K.ad s27.2 (s27.2.1 20 j36) v38 h39) (Nat.le_of_ble_eq_true rfl) (by decide) (by decide) dX3_top_78 ?_
                refine v_iinc5 (pc := 81) (w := 1) K dX3_top_81 rfl (Nat.le_of_ble_eq_true rfl) (by decide) ?_
                refine v_goto (pc := 84) (tgt := 48) K dX3_top_84 (by decide) ?_
                have e := lfc h hk
                exact e
          · cases hF
            exact v_cS1X (pc := 23)  K ca_yX3_needArgument ml_RX3_73 (t_X3_needArgument _ K.nt K.ad s10 t13 (.error e20) _ h19) (Nat.le_of_ble_eq_true rfl) (by decide) (by decide) dX3_top_23 hN rfl rfl
        clear h
        have h := h15
        refine v_if_lt (pc := 15) (tgt := 22) K dX3_top_15 (by decide) (fun c16 => ?_) (fun c16 => ?_)
        · have h := it c16 h
          refine v_ic0 (pc := 22) K dX3_top_22 ?_
          cases h
          exact hJ14
        · have h := ie c16 h
          refine v_ic1 (pc := 18) K dX3_top_18 ?_
          refine v_goto (pc := 19) (tgt := 23) K dX3_top_19 (by decide) ?_
          cases h
          exact hJ14
      · cases hF
        exact v_cS1X (pc := 10)  K ca_yX3_needMask ml_RX3_125 (t_X3_needMask _ K.nt K.ad s6 a2 (.error e12) _ h11) (Nat.le_of_ble_eq_true rfl) (by decide) (by decide) dX3_top_10 hN rfl rfl
    · cases hF
      exact v_cV1X (pc := 6)  K ca_yX3_needColumn ml_RX3_66 (Nat.le_of_ble_eq_true rfl) rfl rfl (t_X3_needColumn _ K.nt K.ad s2 a1 (.error e8) _ h7) (Nat.le_of_ble_eq_true rfl) (by decide) (by decide) dX3_top_6 hN rfl rfl
  · cases hF
    exact v_cS1X (pc := 1)  K ca_yX3_needMask ml_RX3_125 (t_X3_needMask _ K.nt K.ad σ a0 (.error e4) _ h3) (Nat.le_of_ble_eq_true rfl) (by decide) (by decide) dX3_top_1 hN rfl rfl
set_option maxRecDepth 100000 in
def c_X3_field (σ : St) (a0 : Int32) (a1 : Int32) (a2 : Int32) (a3 : Int32) (a4 : Int32) (a5 : Int32) : Option (Except String Int32 × St) :=
  (xB (c_X3_needMask σ a0) fun _ s2 => (xB (c_X3_needColumn s2 a1) fun _ s6 => (xB (c_X3_needMask s6 a5) fun _ s10 => (xB (c_X3_needBit s10 a1 a2) fun _ s14 => ((if a3 < (1 : Int32) then some (0 : Int32) else (if (16 : Int32) < a3 then some (0 : Int32) else ((ix a1 6).bind fun j22 => (if (s14.1 2 j22 - a2) < a3 then some (0 : Int32) else some (1 : Int32))))).bind fun (t17 : Int32) => (xB (c_X3_needArgument s14 t17) fun _ s26 => ((if a4 < 0 then some (0 : Int32) else (if (((1 : Int32) <<< (a3 &&& 31)) - (1 : Int32)) < a4 then some (0 : Int32) else some (1 : Int32))).bind fun (t29 : Int32) => (xB (c_X3_needArgument s26 t29) fun _ s35 => ((c_X3_begin s35).bind fun v38 => ((lp 5000 (fun (s40 : Int32 × St) => (if s40.2.1 1 0 ≤ s40.1 then some (.inr s40.2) else ((c_X1_isNumbered s40.2 a1 s40.1 a5).bind fun v48 => ((if v48 = 0 then some s40.2 else ((ix a1 6).bind fun j54 => ((ix s40.1 192).bind fun j56 => (if ((s40.2.2 (4 + j54) j56 >>> ((a2).toInt64 &&& 63)) &&& ((((1 : Int32) <<< (a3 &&& 31)) - (1 : Int32))).toInt64) = (a4).toInt64 then ((c_X3_include s40.2 s40.1).bind fun v59 => some v59) else some s40.2)))).bind fun (t50 : St) => some (.inl ((s40.1 + 1), t50)))))) ((0 : Int32), v38)).bind fun (r41 : St) => ((c_X3_become r41 a0).bind fun v61 => some (.ok v61.1, v61.2))))))))))))
set_option maxHeartbeats 4000000 in
set_option maxRecDepth 100000 in
theorem t_X3_field (l : Launch) (hnt : l.stackTraces = false) {E : Ev} {base : Nat} (hE : Adr YC E base) (σ : St) (a0 : Int32) (a1 : Int32) (a2 : Int32) (a3 : Int32) (a4 : Int32) (a5 : Int32) (r : Except String Int32) (σ' : St) (h : c_X3_field σ a0 a1 a2 a3 a4 a5 = some (r, σ')) : Ctr l yX3_field cX3_field 9 (some .int) 7 122 YC E base [.ref (E.2.2 0), .int a0, .int a1, .int a2, .int a3, .int a4, .int a5] σ (rI r) σ' := by
  unfold c_X3_field at h
  refine ofV 2 (by decide +kernel) rfl hE hnt (Nat.le_of_ble_eq_true rfl) rfl (fun M hN K => ?_)
  refine v_iload1 (pc := 0) K dX3_field_0 ?_
  rcases xb h with ⟨v1, s2, h3, h⟩ | ⟨e4, s2, h3, hF⟩
  · refine v_cS1U (pc := 1) K ca_yX3_needMask ml_RX3_125 (t_X3_needMask _ K.nt K.ad σ a0 (.ok v1) s2 h3) (Nat.le_of_ble_eq_true rfl) (by decide) (by decide) dX3_field_1 ?_
    refine v_aload0 (pc := 4) K dX3_field_4 ?_
    refine v_iload2 (pc := 5) K dX3_field_5 ?_
    rcases xb h with ⟨v5, s6, h7, h⟩ | ⟨e8, s6, h7, hF⟩
    · refine v_cV1U (pc := 6) K ca_yX3_needColumn ml_RX3_66 (Nat.le_of_ble_eq_true rfl) rfl rfl (t_X3_needColumn _ K.nt K.ad s2 a1 (.ok v5) s6 h7) (Nat.le_of_ble_eq_true rfl) (by decide) (by decide) dX3_field_6 ?_
      refine v_iload6 (pc := 9) K dX3_field_9 ?_
      rcases xb h with ⟨v9, s10, h11, h⟩ | ⟨e12, s10, h11, hF⟩
      · refine v_cS1U (pc := 11) K ca_yX3_needMask ml_RX3_125 (t_X3_needMask _ K.nt K.ad s6 a5 (.ok v9) s10 h11) (Nat.le_of_ble_eq_true rfl) (by decide) (by decide) dX3_field_11 ?_
        refine v_aload0 (pc := 14) K dX3_field_14 ?_
        refine v_iload2 (pc := 15) K dX3_field_15 ?_
        refine v_iload3 (pc := 16) K dX3_field_16 ?_
        rcases xb h with ⟨v13, s14, h15, h⟩ | ⟨e16, s14, h15, hF⟩
        · refine v_cV2U (pc := 17) K ca_yX3_needBit ml_RX3_109 (Nat.le_of_ble_eq_true rfl) rfl rfl (t_X3_needBit _ K.nt K.ad s10 a1 a2 (.ok v13) s14 h15) (Nat.le_of_ble_eq_true rfl) (by decide) (by decide) dX3_field_17 ?_
          refine v_iload4 (pc := 20) K dX3_field_20 ?_
          refine v_ic1 (pc := 22) K dX3_field_22 ?_
          obtain ⟨t17, h19, h⟩ := bd h
          have hJ18 : V (mkX M YC E base 9 (rI r) σ') s14 54 [some (.ref (E.2.2 0)), some (.int a0), some (.int a1), some (.int a2), some (.int a3), some (.int a4), some (.int a5), none, none] [.int t17] := by
            rcases xb h with ⟨v25, s26, h27, h⟩ | ⟨e28, s26, h27, hF⟩
            · refine v_cS1U (pc := 54) K ca_yX3_needArgument ml_RX3_73 (t_X3_needArgument _ K.nt K.ad s14 t17 (.ok v25) s26 h27) (Nat.le_of_ble_eq_true rfl) (by decide) (by decide) dX3_field_54 ?_
              refine v_ic1 (pc := 57) K dX3_field_57 ?_
              refine v_iload4 (pc := 58) K dX3_field_58 ?_
              refine v_ishl (pc := 60) K dX3_field_60 ?_
              refine v_ic1 (pc := 61) K dX3_field_61 ?_
              refine v_isub (pc := 62) K dX3_field_62 ?_
              refine v_istore7 (pc := 63) K dX3_field_63 rfl (Nat.le_of_ble_eq_true rfl) ?_
              refine v_iload5 (pc := 65) K dX3_field_65 ?_
              obtain ⟨t29, h31, h⟩ := bd h
              have hJ30 : V (mkX M YC E base 9 (rI r) σ') s26 82 [some (.ref (E.2.2 0)), some (.int a0), some (.int a1), some (.int a2), none, some (.int a4), some (.int a5), some (.int (((1 : Int32) <<< (a3 &&& 31)) - (1 : Int32))), none] [.int t29] := by
                rcases xb h with ⟨v34, s35, h36, h⟩ | ⟨e37, s35, h36, hF⟩
                · refine v_cS1U (pc := 82) K ca_yX3_needArgument ml_RX3_73 (t_X3_needArgument _ K.nt K.ad s26 t29 (.ok v34) s35 h36) (Nat.le_of_ble_eq_true rfl) (by decide) (by decide) dX3_field_82 ?_
                  refine v_aload0 (pc := 85) K dX3_field_85 ?_
                  obtain ⟨v38, h39, h⟩ := bd h
                  refine v_cV0U (pc := 86)  K ca_yX3_begin ml_RX3_115 (Nat.le_of_ble_eq_true rfl) rfl rfl (t_X3_begin _ K.nt K.ad s35 v38 h39) (Nat.le_of_ble_eq_true rfl) (by decide) (by decide) dX3_field_86 ?_
                  refine v_ic0 (pc := 89) K dX3_field_89 ?_
                  refine v_istore8 (pc := 90) K dX3_field_90 rfl (Nat.le_of_ble_eq_true rfl) ?_
                  obtain ⟨r41, h43, h⟩ := bd h
                  have hJ42 : V (mkX M YC E base 9 (rI r) σ') r41 156 [some (.ref (E.2.2 0)), some (.int a0), none, none, none, none, none, none, none] [] := by
                    refine v_aload0 (pc := 156) K dX3_field_156 ?_
                    refine v_iload1 (pc := 157) K dX3_field_157 ?_
                    obtain ⟨v61, h62, h⟩ := bd h
                    refine v_cV1I (pc := 158)  K ca_yX3_become ml_RX3_131 (Nat.le_of_ble_eq_true rfl) rfl rfl (t_X3_become _ K.nt K.ad r41 a0 v61 h62) (Nat.le_of_ble_eq_true rfl) (by decide) (by decide) dX3_field_158 ?_
                    cases h
                    exact v_iret (pc := 161) K dX3_field_161 rfl rfl
                  clear h
                  have hL63 := lpv h43 (fun s40 : Int32 × St => V (mkX M YC E base 9 (rI r) σ') s40.2 92 [some (.ref (E.2.2 0)), some (.int a0), some (.int a1), some (.int a2), none, some (.int a4), some (.int a5), some (.int (((1 : Int32) <<< (a3 &&& 31)) - (1 : Int32))), some (.int s40.1)] [])
                  refine hL63 (fun s40 o h hk => ?_)
                  refine v_iload8 (pc := 92) K dX3_field_92 ?_
                  refine v_aload0 (pc := 94) K dX3_field_94 ?_
                  refine v_getR (pc := 95) K fl_RX3_14 dX3_field_95 (Nat.le_of_ble_eq_true rfl) rfl rfl ?_
                  refine v_getI (pc := 98) K fl_RX3_76 dX3_field_98 (Nat.le_of_ble_eq_true rfl) rfl rfl ?_
                  refine v_icmp_ge (pc := 101) (tgt := 156) K dX3_field_101 (by decide) (fun c47 => ?_) (fun c47 => ?_)
                  · have h := it c47 h
                    have e := lx h hk
                    cases e
                    exact v_fg [true, true, false, false, true, false, false, false, false] hJ42
                  · have h := ie c47 h
                    refine v_aload0 (pc := 104) K dX3_field_104 ?_
                    refine v_getR (pc := 105) K fl_RX3_14 dX3_field_105 (Nat.le_of_ble_eq_true rfl) rfl rfl ?_
                    refine v_iload2 (pc := 108) K dX3_field_108 ?_
                    refine v_iload8 (pc := 109) K dX3_field_109 ?_
                    refine v_iload6 (pc := 111) K dX3_field_111 ?_
                    obtain ⟨v48, h49, h⟩ := bd h
                    refine v_cV3I (pc := 113)  K ca_yX1_isNumbered ml_RX3_150 (Nat.le_of_ble_eq_true rfl) rfl rfl (t_X1_isNumbered _ K.nt K.ad s40.2 a1 s40.1 a5 v48 h49) (Nat.le_of_ble_eq_true rfl) (by decide) (by decide) dX3_field_113 ?_
                    obtain ⟨t50, h52, h⟩ := bd h
                    have hJ51 : V (mkX M YC E base 9 (rI r) σ') t50 150 [some (.ref (E.2.2 0)), some (.int a0), some (.int a1), some (.int a2), none, some (.int a4), some (.int a5), some (.int (((1 : Int32) <<< (a3 &&& 31)) - (1 : Int32))), some (.int s40.1)] [] := by
                      refine v_iinc8 (pc := 150) (w := 1) K dX3_field_150 rfl (Nat.le_of_ble_eq_true rfl) (by decide) ?_
                      refine v_goto (pc := 153) (tgt := 92) K dX3_field_153 (by decide) ?_
                      have e := lfc h hk
                      exact e
                    clear h
                    have h := h52
                    refine v_if_eq (pc := 116) (tgt := 150) K dX3_field_116 (by decide) (fun c53 => ?_) (fun c53 => ?_)
                    · have h := it c53 h
                      cases h
                      exact hJ51
                    · have h := ie c53 h
                      refine v_aload0 (pc := 119) K dX3_field_119 ?_
                      refine v_getR (pc := 120) K fl_RX3_14 dX3_field_120 (Nat.le_of_ble_eq_true rfl) rfl rfl ?_
                      refine v_getR (pc := 123) K fl_RX3_86 dX3_field_123 (Nat.le_of_ble_eq_true rfl) rfl rfl ?_
                      refine v_iload2 (pc := 126) K dX3_field_126 ?_
                      obtain ⟨j54, h55, h⟩ := bd h
                      refine v_aal (pc := 127) (b := 4) K dX3_field_127 (Nat.le_of_ble_eq_true rfl) rfl rfl h55 ?_
                      refine v_iload8 (pc := 128) K dX3_field_128 ?_
                      obtain ⟨j56, h57, h⟩ := bd h
                      refine v_laload (pc := 130) K dX3_field_130 (rowC' (ix_lt h55)) (rowC (ix_lt h55)) h57 ?_
                      refine v_iload3 (pc := 131) K dX3_field_131 ?_
                      refine v_lshr (pc := 132) K dX3_field_132 ?_
                      refine v_iload7 (pc := 133) K dX3_field_133 ?_
                      refine v_i2l (pc := 135) K dX3_field_135 ?_
                      refine v_land (pc := 136) K dX3_field_136 ?_
                      refine v_iload5 (pc := 137) K dX3_field_137 ?_
                      refine v_i2l (pc := 139) K dX3_field_139 ?_
                      refine v_lc_ne (pc := 140) (tgt := 150) K dX3_field_140 dX3_field_141 (by decide) (fun c58 => ?_) (fun c58 => ?_)
                      · have h := ie c58 h
                        cases h
                        exact hJ51
                      · have h := it c58 h
                        refine v_aload0 (pc := 144) K dX3_field_144 ?_
                        refine v_iload8 (pc := 145) K dX3_field_145 ?_
                        obtain ⟨v59, h60, h⟩ := bd h
                        refine v_cV1U (pc := 147)  K ca_yX3_include ml_RX3_122 (Nat.le_of_ble_eq_true rfl) rfl rfl (t_X3_include _ K.nt K.ad s40.2 s40.1 v59 h60) (Nat.le_of_ble_eq_true rfl) (by decide) (by decide) dX3_field_147 ?_
                        cases h
                        exact hJ51
                · cases hF
                  exact v_cS1X (pc := 82)  K ca_yX3_needArgument ml_RX3_73 (t_X3_needArgument _ K.nt K.ad s26 t29 (.error e37) _ h36) (Nat.le_of_ble_eq_true rfl) (by decide) (by decide) dX3_field_82 hN rfl rfl
              clear h
              have h := h31
              refine v_if_lt (pc := 67) (tgt := 81) K dX3_field_67 (by decide) (fun c32 => ?_) (fun c32 => ?_)
              · have h := it c32 h
                refine v_ic0 (pc := 81) K dX3_field_81 ?_
                cases h
                exact (v_fg [true, true, true, true, false, true, true, true, true] hJ30)
              · have h := ie c32 h
                refine v_iload5 (pc := 70) K dX3_field_70 ?_
                refine v_iload7 (pc := 72) K dX3_field_72 ?_
                refine v_icmp_gt (pc := 74) (tgt := 81) K dX3_field_74 (by decide) (fun c33 => ?_) (fun c33 => ?_)
                · have h := it c33 h
                  refine v_ic0 (pc := 81) K dX3_field_81 ?_
                  cases h
                  exact (v_fg [true, true, true, true, false, true, true, true, true] hJ30)
                · have h := ie c33 h
                  refine v_ic1 (pc := 77) K dX3_field_77 ?_
                  refine v_goto (pc := 78) (tgt := 82) K dX3_field_78 (by decide) ?_
                  cases h
                  exact (v_fg [true, true, true, true, false, true, true, true, true] hJ30)
            · cases hF
              exact v_cS1X (pc := 54)  K ca_yX3_needArgument ml_RX3_73 (t_X3_needArgument _ K.nt K.ad s14 t17 (.error e28) _ h27) (Nat.le_of_ble_eq_true rfl) (by decide) (by decide) dX3_field_54 hN rfl rfl
          clear h
          have h := h19
          refine v_icmp_lt (pc := 23) (tgt := 53) K dX3_field_23 (by decide) (fun c20 => ?_) (fun c20 => ?_)
          · have h := it c20 h
            refine v_ic0 (pc := 53) K dX3_field_53 ?_
            cases h
            exact hJ18
          · have h := ie c20 h
            refine v_iload4 (pc := 26) K dX3_field_26 ?_
            refine v_bipush (pc := 28) (v := 16) K dX3_field_28 (by decide) ?_
            refine v_icmp_gt (pc := 30) (tgt := 53) K dX3_field_30 (by decide) (fun c21 => ?_) (fun c21 => ?_)
            · have h := it c21 h
              refine v_ic0 (pc := 53) K dX3_field_53 ?_
              cases h
              exact hJ18
            · have h := ie c21 h
              refine v_iload4 (pc := 33) K dX3_field_33 ?_
              refine v_aload0 (pc := 35) K dX3_field_35 ?_
              refine v_getR (pc := 36) K fl_RX3_14 dX3_field_36 (Nat.le_of_ble_eq_true rfl) rfl rfl ?_
              refine v_getR (pc := 39) K fl_RX3_58 dX3_field_39 (Nat.le_of_ble_eq_true rfl) rfl rfl ?_
              refine v_iload2 (pc := 42) K dX3_field_42 ?_
              obtain ⟨j22, h23, h⟩ := bd h
              refine v_iaload (pc := 43) K dX3_field_43 (Nat.le_of_ble_eq_true rfl) rfl h23 ?_
              refine v_iload3 (pc := 44) K dX3_field_44 ?_
              refine v_isub (pc := 45) K dX3_field_45 ?_
              refine v_icmp_gt (pc := 46) (tgt := 53) K dX3_field_46 (by decide) (fun c24 => ?_) (fun c24 => ?_)
              · have h := it c24 h
                refine v_ic0 (pc := 53) K dX3_field_53 ?_
                cases h
                exact hJ18
              · have h := ie c24 h
                refine v_ic1 (pc := 49) K dX3_field_49 ?_
                refine v_goto (pc := 50) (tgt := 54) K dX3_field_50 (by decide) ?_
                cases h
                exact hJ18
        · cases hF
          exact v_cV2X (pc := 17)  K ca_yX3_needBit ml_RX3_109 (Nat.le_of_ble_eq_true rfl) rfl rfl (t_X3_needBit _ K.nt K.ad s10 a1 a2 (.error e16) _ h15) (Nat.le_of_ble_eq_true rfl) (by decide) (by decide) dX3_field_17 hN rfl rfl
      · cases hF
        exact v_cS1X (pc := 11)  K ca_yX3_needMask ml_RX3_125 (t_X3_needMask _ K.nt K.ad s6 a5 (.error e12) _ h11) (Nat.le_of_ble_eq_true rfl) (by decide) (by decide) dX3_field_11 hN rfl rfl
    · cases hF
      exact v_cV1X (pc := 6)  K ca_yX3_needColumn ml_RX3_66 (Nat.le_of_ble_eq_true rfl) rfl rfl (t_X3_needColumn _ K.nt K.ad s2 a1 (.error e8) _ h7) (Nat.le_of_ble_eq_true rfl) (by decide) (by decide) dX3_field_6 hN rfl rfl
  · cases hF
    exact v_cS1X (pc := 1)  K ca_yX3_needMask ml_RX3_125 (t_X3_needMask _ K.nt K.ad σ a0 (.error e4) _ h3) (Nat.le_of_ble_eq_true rfl) (by decide) (by decide) dX3_field_1 hN rfl rfl
set_option maxRecDepth 100000 in
def c_X3_move (σ : St) (a0 : Int32) (a1 : Int32) (a2 : Int32) : Option (Except String Int32 × St) :=
  (xB (c_X3_needMask σ a0) fun _ s2 => (xB (c_X3_needMask s2 a1) fun _ s6 => ((if a2 < ((-192) : Int32) then some (0 : Int32) else (if (192 : Int32) < a2 then some (0 : Int32) else some (1 : Int32))).bind fun (t9 : Int32) => (xB (c_X3_needArgument s6 t9) fun _ s15 => ((c_X3_begin s15).bind fun v18 => ((lp 5000 (fun (s20 : Int32 × St) => (if s20.2.1 1 0 ≤ s20.1 then some (.inr s20.2) else ((c_X1_isUnder s20.2 s20.1 a1).bind fun v28 => ((if v28 = 0 then some s20.2 else ((c_X3_include s20.2 (s20.1 + a2)).bind fun v34 => some v34)).bind fun (t30 : St) => some (.inl ((s20.1 + 1), t30)))))) ((0 : Int32), v18)).bind fun (r21 : St) => ((c_X3_become r21 a0).bind fun v36 => some (.ok v36.1, v36.2))))))))
set_option maxHeartbeats 4000000 in
set_option maxRecDepth 100000 in
theorem t_X3_move (l : Launch) (hnt : l.stackTraces = false) {E : Ev} {base : Nat} (hE : Adr YC E base) (σ : St) (a0 : Int32) (a1 : Int32) (a2 : Int32) (r : Except String Int32) (σ' : St) (h : c_X3_move σ a0 a1 a2 = some (r, σ')) : Ctr l yX3_move cX3_move 5 (some .int) 7 120 YC E base [.ref (E.2.2 0), .int a0, .int a1, .int a2] σ (rI r) σ' := by
  unfold c_X3_move at h
  refine ofV 1 (by decide +kernel) rfl hE hnt (Nat.le_of_ble_eq_true rfl) rfl (fun M hN K => ?_)
  refine v_iload1 (pc := 0) K dX3_move_0 ?_
  rcases xb h with ⟨v1, s2, h3, h⟩ | ⟨e4, s2, h3, hF⟩
  · refine v_cS1U (pc := 1) K ca_yX3_needMask ml_RX3_125 (t_X3_needMask _ K.nt K.ad σ a0 (.ok v1) s2 h3) (Nat.le_of_ble_eq_true rfl) (by decide) (by decide) dX3_move_1 ?_
    refine v_iload2 (pc := 4) K dX3_move_4 ?_
    rcases xb h with ⟨v5, s6, h7, h⟩ | ⟨e8, s6, h7, hF⟩
    · refine v_cS1U (pc := 5) K ca_yX3_needMask ml_RX3_125 (t_X3_needMask _ K.nt K.ad s2 a1 (.ok v5) s6 h7) (Nat.le_of_ble_eq_true rfl) (by decide) (by decide) dX3_move_5 ?_
      refine v_iload3 (pc := 8) K dX3_move_8 ?_
      refine v_sipush (pc := 9) (v := (-192)) K dX3_move_9 (by decide) ?_
      obtain ⟨t9, h11, h⟩ := bd h
      have hJ10 : V (mkX M YC E base 5 (rI r) σ') s6 27 [some (.ref (E.2.2 0)), some (.int a0), some (.int a1), some (.int a2), none] [.int t9] := by
        rcases xb h with ⟨v14, s15, h16, h⟩ | ⟨e17, s15, h16, hF⟩
        · refine v_cS1U (pc := 27) K ca_yX3_needArgument ml_RX3_73 (t_X3_needArgument _ K.nt K.ad s6 t9 (.ok v14) s15 h16) (Nat.le_of_ble_eq_true rfl) (by decide) (by decide) dX3_move_27 ?_
          refine v_aload0 (pc := 30) K dX3_move_30 ?_
          obtain ⟨v18, h19, h⟩ := bd h
          refine v_cV0U (pc := 31)  K ca_yX3_begin ml_RX3_115 (Nat.le_of_ble_eq_true rfl) rfl rfl (t_X3_begin _ K.nt K.ad s15 v18 h19) (Nat.le_of_ble_eq_true rfl) (by decide) (by decide) dX3_move_31 ?_
          refine v_ic0 (pc := 34) K dX3_move_34 ?_
          refine v_istore4 (pc := 35) K dX3_move_35 rfl (Nat.le_of_ble_eq_true rfl) ?_
          obtain ⟨r21, h23, h⟩ := bd h
          have hJ22 : V (mkX M YC E base 5 (rI r) σ') r21 76 [some (.ref (E.2.2 0)), some (.int a0), none, none, none] [] := by
            refine v_aload0 (pc := 76) K dX3_move_76 ?_
            refine v_iload1 (pc := 77) K dX3_move_77 ?_
            obtain ⟨v36, h37, h⟩ := bd h
            refine v_cV1I (pc := 78)  K ca_yX3_become ml_RX3_131 (Nat.le_of_ble_eq_true rfl) rfl rfl (t_X3_become _ K.nt K.ad r21 a0 v36 h37) (Nat.le_of_ble_eq_true rfl) (by decide) (by decide) dX3_move_78 ?_
            cases h
            exact v_iret (pc := 81) K dX3_move_81 rfl rfl
          clear h
          have hL38 := lpv h23 (fun s20 : Int32 × St => V (mkX M YC E base 5 (rI r) σ') s20.2 37 [some (.ref (E.2.2 0)), some (.int a0), some (.int a1), some (.int a2), some (.int s20.1)] [])
          refine hL38 (fun s20 o h hk => ?_)
          refine v_iload4 (pc := 37) K dX3_move_37 ?_
          refine v_aload0 (pc := 39) K dX3_move_39 ?_
          refine v_getR (pc := 40) K fl_RX3_14 dX3_move_40 (Nat.le_of_ble_eq_true rfl) rfl rfl ?_
          refine v_getI (pc := 43) K fl_RX3_76 dX3_move_43 (Nat.le_of_ble_eq_true rfl) rfl rfl ?_
          refine v_icmp_ge (pc := 46) (tgt := 76) K dX3_move_46 (by decide) (fun c27 => ?_) (fun c27 => ?_)
          · have h := it c27 h
            have e := lx h hk
            cases e
            exact v_fg [true, true, false, false, false] hJ22
          · have h := ie c27 h
            refine v_aload0 (pc := 49) K dX3_move_49 ?_
            refine v_getR (pc := 50) K fl_RX3_14 dX3_move_50 (Nat.le_of_ble_eq_true rfl) rfl rfl ?_
            refine v_iload4 (pc := 53) K dX3_move_53 ?_
            refine v_iload2 (pc := 55) K dX3_move_55 ?_
            obtain ⟨v28, h29, h⟩ := bd h
            refine v_cV2I (pc := 56)  K ca_yX1_isUnder ml_RX3_162 (Nat.le_of_ble_eq_true rfl) rfl rfl (t_X1_isUnder _ K.nt K.ad s20.2 s20.1 a1 v28 h29) (Nat.le_of_ble_eq_true rfl) (by decide) (by decide) dX3_move_56 ?_
            obtain ⟨t30, h32, h⟩ := bd h
            have hJ31 : V (mkX M YC E base 5 (rI r) σ') t30 70 [some (.ref (E.2.2 0)), some (.int a0), some (.int a1), some (.int a2), some (.int s20.1)] [] := by
              refine v_iinc4 (pc := 70) (w := 1) K dX3_move_70 rfl (Nat.le_of_ble_eq_true rfl) (by decide) ?_
              refine v_goto (pc := 73) (tgt := 37) K dX3_move_73 (by decide) ?_
              have e := lfc h hk
              exact e
            clear h
            have h := h32
            refine v_if_eq (pc := 59) (tgt := 70) K dX3_move_59 (by decide) (fun c33 => ?_) (fun c33 => ?_)
            · have h := it c33 h
              cases h
              exact hJ31
            · have h := ie c33 h
              refine v_aload0 (pc := 62) K dX3_move_62 ?_
              refine v_iload4 (pc := 63) K dX3_move_63 ?_
              refine v_iload3 (pc := 65) K dX3_move_65 ?_
              refine v_iadd (pc := 66) K dX3_move_66 ?_
              obtain ⟨v34, h35, h⟩ := bd h
              refine v_cV1U (pc := 67)  K ca_yX3_include ml_RX3_122 (Nat.le_of_ble_eq_true rfl) rfl rfl (t_X3_include _ K.nt K.ad s20.2 (s20.1 + a2) v34 h35) (Nat.le_of_ble_eq_true rfl) (by decide) (by decide) dX3_move_67 ?_
              cases h
              exact hJ31
        · cases hF
          exact v_cS1X (pc := 27)  K ca_yX3_needArgument ml_RX3_73 (t_X3_needArgument _ K.nt K.ad s6 t9 (.error e17) _ h16) (Nat.le_of_ble_eq_true rfl) (by decide) (by decide) dX3_move_27 hN rfl rfl
      clear h
      have h := h11
      refine v_icmp_lt (pc := 12) (tgt := 26) K dX3_move_12 (by decide) (fun c12 => ?_) (fun c12 => ?_)
      · have h := it c12 h
        refine v_ic0 (pc := 26) K dX3_move_26 ?_
        cases h
        exact hJ10
      · have h := ie c12 h
        refine v_iload3 (pc := 15) K dX3_move_15 ?_
        refine v_sipush (pc := 16) (v := 192) K dX3_move_16 (by decide) ?_
        refine v_icmp_gt (pc := 19) (tgt := 26) K dX3_move_19 (by decide) (fun c13 => ?_) (fun c13 => ?_)
        · have h := it c13 h
          refine v_ic0 (pc := 26) K dX3_move_26 ?_
          cases h
          exact hJ10
        · have h := ie c13 h
          refine v_ic1 (pc := 22) K dX3_move_22 ?_
          refine v_goto (pc := 23) (tgt := 27) K dX3_move_23 (by decide) ?_
          cases h
          exact hJ10
    · cases hF
      exact v_cS1X (pc := 5)  K ca_yX3_needMask ml_RX3_125 (t_X3_needMask _ K.nt K.ad s2 a1 (.error e8) _ h7) (Nat.le_of_ble_eq_true rfl) (by decide) (by decide) dX3_move_5 hN rfl rfl
  · cases hF
    exact v_cS1X (pc := 1)  K ca_yX3_needMask ml_RX3_125 (t_X3_needMask _ K.nt K.ad σ a0 (.error e4) _ h3) (Nat.le_of_ble_eq_true rfl) (by decide) (by decide) dX3_move_1 hN rfl rfl
set_option maxRecDepth 100000 in
def c_X1_areAlike (σ : St) (a0 : Int32) (a1 : Int32) : Option (Int32) :=
  (eB (lp 5000 (fun (s1 : Int32) => (if σ.1 1 1 ≤ s1 then some (.inr (.inl ())) else ((ix s1 6).bind fun j9 => ((ix a0 192).bind fun j11 => ((ix s1 6).bind fun j13 => ((ix a1 192).bind fun j15 => (if σ.2 (4 + j9) j11 = σ.2 (4 + j13) j15 then some (.inl (s1 + 1)) else some (.inr (.inr (nz (0 : Int32))))))))))) (0 : Int32)) fun (r2 : Unit) => some (nz (1 : Int32)))
set_option maxHeartbeats 4000000 in
set_option maxRecDepth 100000 in
theorem t_X1_areAlike (l : Launch) (hnt : l.stackTraces = false) {E : Ev} {base : Nat} (hE : Adr YC E base) (σ : St) (a0 : Int32) (a1 : Int32) (r : Int32) (h : c_X1_areAlike σ a0 a1 = some r) : Ctr l yX1_areAlike cX1_areAlike 4 (some .boolean) 0 0 YC E base [.ref (E.2.2 1), .int a0, .int a1] σ (.ok (some (.int r))) σ := by
  unfold c_X1_areAlike at h
  refine ofV 1 (by decide +kernel) rfl hE hnt (Nat.le_of_ble_eq_true rfl) rfl (fun M hN K => ?_)
  refine v_ic0 (pc := 0) K dX1_areAlike_0 ?_
  refine v_istore3 (pc := 1) K dX1_areAlike_1 rfl (Nat.le_of_ble_eq_true rfl) ?_
  obtain ⟨w7, h4, hi5, hq6⟩ := eb h
  have hJ3 : ∀ r2 : Unit, w7 = .inl r2 → V (mkX M YC E base 4 (.ok (some (.int r))) σ) σ 38 [none, none, none, none] [] := by
    intro r2 ha
    have h := hi5 _ ha
    refine v_ic1 (pc := 38) K dX1_areAlike_38 ?_
    cases h
    exact v_zret (pc := 39) K dX1_areAlike_39 rfl rfl
  clear h
  have hL18 := lpv h4 (fun s1 : Int32 => V (mkX M YC E base 4 (.ok (some (.int r))) σ) σ 2 [some (.ref (E.2.2 1)), some (.int a0), some (.int a1), some (.int s1)] [])
  refine hL18 (fun s1 o h hk => ?_)
  refine v_iload3 (pc := 2) K dX1_areAlike_2 ?_
  refine v_aload0 (pc := 3) K dX1_areAlike_3 ?_
  refine v_getI (pc := 4) K fl_RX1_27 dX1_areAlike_4 (Nat.le_of_ble_eq_true rfl) rfl rfl ?_
  refine v_icmp_ge (pc := 7) (tgt := 38) K dX1_areAlike_7 (by decide) (fun c8 => ?_) (fun c8 => ?_)
  · have h := it c8 h
    have e := lx h hk
    exact v_fg [false, false, false, false] (hJ3 _ e.symm)
  · have h := ie c8 h
    refine v_aload0 (pc := 10) K dX1_areAlike_10 ?_
    refine v_getR (pc := 11) K fl_RX1_17 dX1_areAlike_11 (Nat.le_of_ble_eq_true rfl) rfl rfl ?_
    refine v_iload3 (pc := 14) K dX1_areAlike_14 ?_
    obtain ⟨j9, h10, h⟩ := bd h
    refine v_aal (pc := 15) (b := 4) K dX1_areAlike_15 (Nat.le_of_ble_eq_true rfl) rfl rfl h10 ?_
    refine v_iload1 (pc := 16) K dX1_areAlike_16 ?_
    obtain ⟨j11, h12, h⟩ := bd h
    refine v_laload (pc := 17) K dX1_areAlike_17 (rowC' (ix_lt h10)) (rowC (ix_lt h10)) h12 ?_
    refine v_aload0 (pc := 18) K dX1_areAlike_18 ?_
    refine v_getR (pc := 19) K fl_RX1_17 dX1_areAlike_19 (Nat.le_of_ble_eq_true rfl) rfl rfl ?_
    refine v_iload3 (pc := 22) K dX1_areAlike_22 ?_
    obtain ⟨j13, h14, h⟩ := bd h
    refine v_aal (pc := 23) (b := 4) K dX1_areAlike_23 (Nat.le_of_ble_eq_true rfl) rfl rfl h14 ?_
    refine v_iload2 (pc := 24) K dX1_areAlike_24 ?_
    obtain ⟨j15, h16, h⟩ := bd h
    refine v_laload (pc := 25) K dX1_areAlike_25 (rowC' (ix_lt h14)) (rowC (ix_lt h14)) h16 ?_
    refine v_lc_eq (pc := 26) (tgt := 32) K dX1_areAlike_26 dX1_areAlike_27 (by decide) (fun c17 => ?_) (fun c17 => ?_)
    · have h := it c17 h
      refine v_iinc3 (pc := 32) (w := 1) K dX1_areAlike_32 rfl (Nat.le_of_ble_eq_true rfl) (by decide) ?_
      refine v_goto (pc := 35) (tgt := 2) K dX1_areAlike_35 (by decide) ?_
      have e := lfc h hk
      exact e
    · have h := ie c17 h
      refine v_ic0 (pc := 30) K dX1_areAlike_30 ?_
      have h := congrArg some (hq6 _ (lx h hk).symm)
      cases h
      exact v_zret (pc := 31) K dX1_areAlike_31 rfl rfl
set_option maxRecDepth 100000 in
def c_X3_isLikeOneMade (σ : St) (a0 : Int32) : Option (Int32) :=
  (eB (lp 5000 (fun (s1 : Int32) => (if a0 ≤ s1 then some (.inr (.inl ())) else ((c_X3_isIn σ 26 s1).bind fun v9 => (if v9 = 0 then some (.inl (s1 + 1)) else ((c_X1_areAlike σ s1 a0).bind fun v12 => (if v12 = 0 then some (.inl (s1 + 1)) else some (.inr (.inr (nz (1 : Int32)))))))))) (0 : Int32)) fun (r2 : Unit) => some (nz (0 : Int32)))
set_option maxHeartbeats 4000000 in
set_option maxRecDepth 100000 in
theorem t_X3_isLikeOneMade (l : Launch) (hnt : l.stackTraces = false) {E : Ev} {base : Nat} (hE : Adr YC E base) (σ : St) (a0 : Int32) (r : Int32) (h : c_X3_isLikeOneMade σ a0 = some r) : Ctr l yX3_isLikeOneMade cX3_isLikeOneMade 3 (some .boolean) 1 23 YC E base [.ref (E.2.2 0), .int a0] σ (.ok (some (.int r))) σ := by
  unfold c_X3_isLikeOneMade at h
  refine ofV 1 (by decide +kernel) rfl hE hnt (Nat.le_of_ble_eq_true rfl) rfl (fun M hN K => ?_)
  refine v_ic0 (pc := 0) K dX3_isLikeOneMade_0 ?_
  refine v_istore2 (pc := 1) K dX3_isLikeOneMade_1 rfl (Nat.le_of_ble_eq_true rfl) ?_
  obtain ⟨w7, h4, hi5, hq6⟩ := eb h
  have hJ3 : ∀ r2 : Unit, w7 = .inl r2 → V (mkX M YC E base 3 (.ok (some (.int r))) σ) σ 38 [none, none, none] [] := by
    intro r2 ha
    have h := hi5 _ ha
    refine v_ic0 (pc := 38) K dX3_isLikeOneMade_38 ?_
    cases h
    exact v_zret (pc := 39) K dX3_isLikeOneMade_39 rfl rfl
  clear h
  have hL15 := lpv h4 (fun s1 : Int32 => V (mkX M YC E base 3 (.ok (some (.int r))) σ) σ 2 [some (.ref (E.2.2 0)), some (.int a0), some (.int s1)] [])
  refine hL15 (fun s1 o h hk => ?_)
  refine v_iload2 (pc := 2) K dX3_isLikeOneMade_2 ?_
  refine v_iload1 (pc := 3) K dX3_isLikeOneMade_3 ?_
  refine v_icmp_ge (pc := 4) (tgt := 38) K dX3_isLikeOneMade_4 (by decide) (fun c8 => ?_) (fun c8 => ?_)
  · have h := it c8 h
    have e := lx h hk
    exact v_fg [false, false, false] (hJ3 _ e.symm)
  · have h := ie c8 h
    refine v_aload0 (pc := 7) K dX3_isLikeOneMade_7 ?_
    refine v_getR (pc := 8) K fl_RX3_36 dX3_isLikeOneMade_8 (Nat.le_of_ble_eq_true rfl) rfl rfl ?_
    refine v_iload2 (pc := 11) K dX3_isLikeOneMade_11 ?_
    obtain ⟨v9, h10, h⟩ := bd h
    refine v_cS2I (pc := 12)  K ca_yX3_isIn ml_RX3_337 (t_X3_isIn _ K.nt K.ad σ 26 (Nat.le_of_ble_eq_true rfl) rfl s1 v9 h10) (Nat.le_of_ble_eq_true rfl) (by decide) (by decide) dX3_isLikeOneMade_12 ?_
    refine v_if_eq (pc := 15) (tgt := 32) K dX3_isLikeOneMade_15 (by decide) (fun c11 => ?_) (fun c11 => ?_)
    · have h := it c11 h
      refine v_iinc2 (pc := 32) (w := 1) K dX3_isLikeOneMade_32 rfl (Nat.le_of_ble_eq_true rfl) (by decide) ?_
      refine v_goto (pc := 35) (tgt := 2) K dX3_isLikeOneMade_35 (by decide) ?_
      have e := lfc h hk
      exact e
    · have h := ie c11 h
      refine v_aload0 (pc := 18) K dX3_isLikeOneMade_18 ?_
      refine v_getR (pc := 19) K fl_RX3_14 dX3_isLikeOneMade_19 (Nat.le_of_ble_eq_true rfl) rfl rfl ?_
      refine v_iload2 (pc := 22) K dX3_isLikeOneMade_22 ?_
      refine v_iload1 (pc := 23) K dX3_isLikeOneMade_23 ?_
      obtain ⟨v12, h13, h⟩ := bd h
      refine v_cV2I (pc := 24)  K ca_yX1_areAlike ml_RX3_183 (Nat.le_of_ble_eq_true rfl) rfl rfl (t_X1_areAlike _ K.nt K.ad σ s1 a0 v12 h13) (Nat.le_of_ble_eq_true rfl) (by decide) (by decide) dX3_isLikeOneMade_24 ?_
      refine v_if_eq (pc := 27) (tgt := 32) K dX3_isLikeOneMade_27 (by decide) (fun c14 => ?_) (fun c14 => ?_)
      · have h := it c14 h
        refine v_iinc2 (pc := 32) (w := 1) K dX3_isLikeOneMade_32 rfl (Nat.le_of_ble_eq_true rfl) (by decide) ?_
        refine v_goto (pc := 35) (tgt := 2) K dX3_isLikeOneMade_35 (by decide) ?_
        have e := lfc h hk
        exact e
      · have h := ie c14 h
        refine v_ic1 (pc := 30) K dX3_isLikeOneMade_30 ?_
        have h := congrArg some (hq6 _ (lx h hk).symm)
        cases h
        exact v_zret (pc := 31) K dX3_isLikeOneMade_31 rfl rfl
set_option maxRecDepth 100000 in
def c_X3_firsts (σ : St) (a0 : Int32) (a1 : Int32) : Option (Except String Int32 × St) :=
  (xB (c_X3_needMask σ a0) fun _ s2 => (xB (c_X3_needMask s2 a1) fun _ s6 => ((c_X3_begin s6).bind fun v9 => ((lp 5000 (fun (s11 : Int32 × St) => (if s11.2.1 1 0 ≤ s11.1 then some (.inr s11.2) else ((c_X1_isUnder s11.2 s11.1 a1).bind fun v19 => ((if v19 = 0 then some s11.2 else ((c_X3_isLikeOneMade s11.2 s11.1).bind fun v25 => (if v25 = 0 then ((c_X3_include s11.2 s11.1).bind fun v28 => some v28) else some s11.2))).bind fun (t21 : St) => some (.inl ((s11.1 + 1), t21)))))) ((0 : Int32), v9)).bind fun (r12 : St) => ((c_X3_become r12 a0).bind fun v30 => some (.ok v30.1, v30.2))))))
set_option maxHeartbeats 4000000 in
set_option maxRecDepth 100000 in
theorem t_X3_firsts (l : Launch) (hnt : l.stackTraces = false) {E : Ev} {base : Nat} (hE : Adr YC E base) (σ : St) (a0 : Int32) (a1 : Int32) (r : Except String Int32) (σ' : St) (h : c_X3_firsts σ a0 a1 = some (r, σ')) : Ctr l yX3_firsts cX3_firsts 4 (some .int) 7 120 YC E base [.ref (E.2.2 0), .int a0, .int a1] σ (rI r) σ' := by
  unfold c_X3_firsts at h
  refine ofV 1 (by decide +kernel) rfl hE hnt (Nat.le_of_ble_eq_true rfl) rfl (fun M hN K => ?_)
  refine v_iload1 (pc := 0) K dX3_firsts_0 ?_
  rcases xb h with ⟨v1, s2, h3, h⟩ | ⟨e4, s2, h3, hF⟩
  · refine v_cS1U (pc := 1) K ca_yX3_needMask ml_RX3_125 (t_X3_needMask _ K.nt K.ad σ a0 (.ok v1) s2 h3) (Nat.le_of_ble_eq_true rfl) (by decide) (by decide) dX3_firsts_1 ?_
    refine v_iload2 (pc := 4) K dX3_firsts_4 ?_
    rcases xb h with ⟨v5, s6, h7, h⟩ | ⟨e8, s6, h7, hF⟩
    · refine v_cS1U (pc := 5) K ca_yX3_needMask ml_RX3_125 (t_X3_needMask _ K.nt K.ad s2 a1 (.ok v5) s6 h7) (Nat.le_of_ble_eq_true rfl) (by decide) (by decide) dX3_firsts_5 ?_
      refine v_aload0 (pc := 8) K dX3_firsts_8 ?_
      obtain ⟨v9, h10, h⟩ := bd h
      refine v_cV0U (pc := 9)  K ca_yX3_begin ml_RX3_115 (Nat.le_of_ble_eq_true rfl) rfl rfl (t_X3_begin _ K.nt K.ad s6 v9 h10) (Nat.le_of_ble_eq_true rfl) (by decide) (by decide) dX3_firsts_9 ?_
      refine v_ic0 (pc := 12) K dX3_firsts_12 ?_
      refine v_istore3 (pc := 13) K dX3_firsts_13 rfl (Nat.le_of_ble_eq_true rfl) ?_
      obtain ⟨r12, h14, h⟩ := bd h
      have hJ13 : V (mkX M YC E base 4 (rI r) σ') r12 56 [some (.ref (E.2.2 0)), some (.int a0), none, none] [] := by
        refine v_aload0 (pc := 56) K dX3_firsts_56 ?_
        refine v_iload1 (pc := 57) K dX3_firsts_57 ?_
        obtain ⟨v30, h31, h⟩ := bd h
        refine v_cV1I (pc := 58)  K ca_yX3_become ml_RX3_131 (Nat.le_of_ble_eq_true rfl) rfl rfl (t_X3_become _ K.nt K.ad r12 a0 v30 h31) (Nat.le_of_ble_eq_true rfl) (by decide) (by decide) dX3_firsts_58 ?_
        cases h
        exact v_iret (pc := 61) K dX3_firsts_61 rfl rfl
      clear h
      have hL32 := lpv h14 (fun s11 : Int32 × St => V (mkX M YC E base 4 (rI r) σ') s11.2 14 [some (.ref (E.2.2 0)), some (.int a0), some (.int a1), some (.int s11.1)] [])
      refine hL32 (fun s11 o h hk => ?_)
      refine v_iload3 (pc := 14) K dX3_firsts_14 ?_
      refine v_aload0 (pc := 15) K dX3_firsts_15 ?_
      refine v_getR (pc := 16) K fl_RX3_14 dX3_firsts_16 (Nat.le_of_ble_eq_true rfl) rfl rfl ?_
      refine v_getI (pc := 19) K fl_RX3_76 dX3_firsts_19 (Nat.le_of_ble_eq_true rfl) rfl rfl ?_
      refine v_icmp_ge (pc := 22) (tgt := 56) K dX3_firsts_22 (by decide) (fun c18 => ?_) (fun c18 => ?_)
      · have h := it c18 h
        have e := lx h hk
        cases e
        exact v_fg [true, true, false, false] hJ13
      · have h := ie c18 h
        refine v_aload0 (pc := 25) K dX3_firsts_25 ?_
        refine v_getR (pc := 26) K fl_RX3_14 dX3_firsts_26 (Nat.le_of_ble_eq_true rfl) rfl rfl ?_
        refine v_iload3 (pc := 29) K dX3_firsts_29 ?_
        refine v_iload2 (pc := 30) K dX3_firsts_30 ?_
        obtain ⟨v19, h20, h⟩ := bd h
        refine v_cV2I (pc := 31)  K ca_yX1_isUnder ml_RX3_162 (Nat.le_of_ble_eq_true rfl) rfl rfl (t_X1_isUnder _ K.nt K.ad s11.2 s11.1 a1 v19 h20) (Nat.le_of_ble_eq_true rfl) (by decide) (by decide) dX3_firsts_31 ?_
        obtain ⟨t21, h23, h⟩ := bd h
        have hJ22 : V (mkX M YC E base 4 (rI r) σ') t21 50 [some (.ref (E.2.2 0)), some (.int a0), some (.int a1), some (.int s11.1)] [] := by
          refine v_iinc3 (pc := 50) (w := 1) K dX3_firsts_50 rfl (Nat.le_of_ble_eq_true rfl) (by decide) ?_
          refine v_goto (pc := 53) (tgt := 14) K dX3_firsts_53 (by decide) ?_
          have e := lfc h hk
          exact e
        clear h
        have h := h23
        refine v_if_eq (pc := 34) (tgt := 50) K dX3_firsts_34 (by decide) (fun c24 => ?_) (fun c24 => ?_)
        · have h := it c24 h
          cases h
          exact hJ22
        · have h := ie c24 h
          refine v_aload0 (pc := 37) K dX3_firsts_37 ?_
          refine v_iload3 (pc := 38) K dX3_firsts_38 ?_
          obtain ⟨v25, h26, h⟩ := bd h
          refine v_cV1I (pc := 39)  K ca_yX3_isLikeOneMade ml_RX3_179 (Nat.le_of_ble_eq_true rfl) rfl rfl (t_X3_isLikeOneMade _ K.nt K.ad s11.2 s11.1 v25 h26) (Nat.le_of_ble_eq_true rfl) (by decide) (by decide) dX3_firsts_39 ?_
          refine v_if_ne (pc := 42) (tgt := 50) K dX3_firsts_42 (by decide) (fun c27 => ?_) (fun c27 => ?_)
          · have h := ie c27 h
            cases h
            exact hJ22
          · have h := it c27 h
            refine v_aload0 (pc := 45) K dX3_firsts_45 ?_
            refine v_iload3 (pc := 46) K dX3_firsts_46 ?_
            obtain ⟨v28, h29, h⟩ := bd h
            refine v_cV1U (pc := 47)  K ca_yX3_include ml_RX3_122 (Nat.le_of_ble_eq_true rfl) rfl rfl (t_X3_include _ K.nt K.ad s11.2 s11.1 v28 h29) (Nat.le_of_ble_eq_true rfl) (by decide) (by decide) dX3_firsts_47 ?_
            cases h
            exact hJ22
    · cases hF
      exact v_cS1X (pc := 5)  K ca_yX3_needMask ml_RX3_125 (t_X3_needMask _ K.nt K.ad s2 a1 (.error e8) _ h7) (Nat.le_of_ble_eq_true rfl) (by decide) (by decide) dX3_firsts_5 hN rfl rfl
  · cases hF
    exact v_cS1X (pc := 1)  K ca_yX3_needMask ml_RX3_125 (t_X3_needMask _ K.nt K.ad σ a0 (.error e4) _ h3) (Nat.le_of_ble_eq_true rfl) (by decide) (by decide) dX3_firsts_1 hN rfl rfl
set_option maxRecDepth 100000 in
def c_X3_runs (σ : St) (a0 : Int32) (a1 : Int32) : Option (Except String Int32 × St) :=
  (xB (c_X3_needMask σ a0) fun _ s2 => ((if a1 < 0 then some (0 : Int32) else (if (2 : Int32) < a1 then some (0 : Int32) else some (1 : Int32))).bind fun (t5 : Int32) => (xB (c_X3_needArgument s2 t5) fun _ s11 => ((lp 5000 (fun (s14 : Int32 × Int32 × Int32 × Int32 × Int32) => (if s11.1 1 0 ≤ s14.2.2.2.2 then some (.inr (s14.1, s14.2.1, s14.2.2.1)) else ((c_X1_isUnder s11 s14.2.2.2.2 a0).bind fun v22 => ((if v22 = 0 then some (0 : Int32) else some (s14.2.2.2.1 + (1 : Int32))).bind fun (t24 : Int32) => ((if t24 = (1 : Int32) then some (s14.1 + 1) else some s14.1).bind fun (t28 : Int32) => ((if t24 ≤ s14.2.1 then some (s14.2.1, s14.2.2.1) else some (t24, ((s14.2.2.2.2 - t24) + (1 : Int32)))).bind fun (t32 : Int32 × Int32) => some (.inl (t28, t32.1, t32.2, t24, (s14.2.2.2.2 + 1))))))))) ((0 : Int32), (0 : Int32), ((-1) : Int32), (0 : Int32), (0 : Int32))).bind fun (r15 : Int32 × Int32 × Int32) => (if a1 = 0 then some (.ok r15.1, s11) else ((if a1 = (1 : Int32) then some r15.2.1 else some r15.2.2).bind fun (t37 : Int32) => some (.ok t37, s11)))))))
set_option maxHeartbeats 4000000 in
set_option maxRecDepth 100000 in
theorem t_X3_runs (l : Launch) (hnt : l.stackTraces = false) {E : Ev} {base : Nat} (hE : Adr YC E base) (σ : St) (a0 : Int32) (a1 : Int32) (r : Except String Int32) (σ' : St) (h : c_X3_runs σ a0 a1 = some (r, σ')) : Ctr l yX3_runs cX3_runs 8 (some .int) 7 120 YC E base [.ref (E.2.2 0), .int a0, .int a1] σ (rI r) σ' := by
  unfold c_X3_runs at h
  refine ofV 5 (by decide +kernel) rfl hE hnt (Nat.le_of_ble_eq_true rfl) rfl (fun M hN K => ?_)
  refine v_iload1 (pc := 0) K dX3_runs_0 ?_
  rcases xb h with ⟨v1, s2, h3, h⟩ | ⟨e4, s2, h3, hF⟩
  · refine v_cS1U (pc := 1) K ca_yX3_needMask ml_RX3_125 (t_X3_needMask _ K.nt K.ad σ a0 (.ok v1) s2 h3) (Nat.le_of_ble_eq_true rfl) (by decide) (by decide) dX3_runs_1 ?_
    refine v_iload2 (pc := 4) K dX3_runs_4 ?_
    obtain ⟨t5, h7, h⟩ := bd h
    have hJ6 : V (mkX M YC E base 8 (rI r) σ') s2 18 [some (.ref (E.2.2 0)), some (.int a0), some (.int a1), none, none, none, none, none] [.int t5] := by
      rcases xb h with ⟨v10, s11, h12, h⟩ | ⟨e13, s11, h12, hF⟩
      · refine v_cS1U (pc := 18) K ca_yX3_needArgument ml_RX3_73 (t_X3_needArgument _ K.nt K.ad s2 t5 (.ok v10) s11 h12) (Nat.le_of_ble_eq_true rfl) (by decide) (by decide) dX3_runs_18 ?_
        refine v_ic0 (pc := 21) K dX3_runs_21 ?_
        refine v_istore3 (pc := 22) K dX3_runs_22 rfl (Nat.le_of_ble_eq_true rfl) ?_
        refine v_ic0 (pc := 23) K dX3_runs_23 ?_
        refine v_istore4 (pc := 24) K dX3_runs_24 rfl (Nat.le_of_ble_eq_true rfl) ?_
        refine v_icm1 (pc := 26) K dX3_runs_26 ?_
        refine v_istore5 (pc := 27) K dX3_runs_27 rfl (Nat.le_of_ble_eq_true rfl) ?_
        refine v_ic0 (pc := 29) K dX3_runs_29 ?_
        refine v_istore6 (pc := 30) K dX3_runs_30 rfl (Nat.le_of_ble_eq_true rfl) ?_
        refine v_ic0 (pc := 32) K dX3_runs_32 ?_
        refine v_istore7 (pc := 33) K dX3_runs_33 rfl (Nat.le_of_ble_eq_true rfl) ?_
        obtain ⟨r15, h17, h⟩ := bd h
        have hJ16 : V (mkX M YC E base 8 (rI r) σ') s11 105 [none, none, some (.int a1), some (.int r15.1), some (.int r15.2.1), some (.int r15.2.2), none, none] [] := by
          refine v_iload2 (pc := 105) K dX3_runs_105 ?_
          refine v_if_ne (pc := 106) (tgt := 111) K dX3_runs_106 (by decide) (fun c36 => ?_) (fun c36 => ?_)
          · have h := ie c36 h
            refine v_iload2 (pc := 111) K dX3_runs_111 ?_
            refine v_ic1 (pc := 112) K dX3_runs_112 ?_
            obtain ⟨t37, h39, h⟩ := bd h
            have hJ38 : V (mkX M YC E base 8 (rI r) σ') s11 123 [none, none, none, none, none, none, none, none] [.int t37] := by
              cases h
              exact v_iret (pc := 123) K dX3_runs_123 rfl rfl
            clear h
            have h := h39
            refine v_icmp_ne (pc := 113) (tgt := 121) K dX3_runs_113 (by decide) (fun c40 => ?_) (fun c40 => ?_)
            · have h := ie c40 h
              refine v_iload5 (pc := 121) K dX3_runs_121 ?_
              cases h
              exact (v_fg [true, true, false, false, false, false, true, true] hJ38)
            · have h := it c40 h
              refine v_iload4 (pc := 116) K dX3_runs_116 ?_
              refine v_goto (pc := 118) (tgt := 123) K dX3_runs_118 (by decide) ?_
              cases h
              exact (v_fg [true, true, false, false, false, false, true, true] hJ38)
          · have h := it c36 h
            refine v_iload3 (pc := 109) K dX3_runs_109 ?_
            cases h
            exact v_iret (pc := 110) K dX3_runs_110 rfl rfl
        clear h
        have hL41 := lpv h17 (fun s14 : Int32 × Int32 × Int32 × Int32 × Int32 => V (mkX M YC E base 8 (rI r) σ') s11 35 [some (.ref (E.2.2 0)), some (.int a0), some (.int a1), some (.int s14.1), some (.int s14.2.1), some (.int s14.2.2.1), some (.int s14.2.2.2.1), some (.int s14.2.2.2.2)] [])
        refine hL41 (fun s14 o h hk => ?_)
        refine v_iload7 (pc := 35) K dX3_runs_35 ?_
        refine v_aload0 (pc := 37) K dX3_runs_37 ?_
        refine v_getR (pc := 38) K fl_RX3_14 dX3_runs_38 (Nat.le_of_ble_eq_true rfl) rfl rfl ?_
        refine v_getI (pc := 41) K fl_RX3_76 dX3_runs_41 (Nat.le_of_ble_eq_true rfl) rfl rfl ?_
        refine v_icmp_ge (pc := 44) (tgt := 105) K dX3_runs_44 (by decide) (fun c21 => ?_) (fun c21 => ?_)
        · have h := it c21 h
          have e := lx h hk
          cases e
          exact v_fg [false, false, true, true, true, true, false, false] hJ16
        · have h := ie c21 h
          refine v_aload0 (pc := 47) K dX3_runs_47 ?_
          refine v_getR (pc := 48) K fl_RX3_14 dX3_runs_48 (Nat.le_of_ble_eq_true rfl) rfl rfl ?_
          refine v_iload7 (pc := 51) K dX3_runs_51 ?_
          refine v_iload1 (pc := 53) K dX3_runs_53 ?_
          obtain ⟨v22, h23, h⟩ := bd h
          refine v_cV2I (pc := 54)  K ca_yX1_isUnder ml_RX3_162 (Nat.le_of_ble_eq_true rfl) rfl rfl (t_X1_isUnder _ K.nt K.ad s11 s14.2.2.2.2 a0 v22 h23) (Nat.le_of_ble_eq_true rfl) (by decide) (by decide) dX3_runs_54 ?_
          obtain ⟨t24, h26, h⟩ := bd h
          have hJ25 : V (mkX M YC E base 8 (rI r) σ') s11 68 [some (.ref (E.2.2 0)), some (.int a0), some (.int a1), some (.int s14.1), some (.int s14.2.1), some (.int s14.2.2.1), none, some (.int s14.2.2.2.2)] [.int t24] := by
            refine v_istore6 (pc := 68) K dX3_runs_68 rfl (Nat.le_of_ble_eq_true rfl) ?_
            refine v_iload6 (pc := 70) K dX3_runs_70 ?_
            refine v_ic1 (pc := 72) K dX3_runs_72 ?_
            obtain ⟨t28, h30, h⟩ := bd h
            have hJ29 : V (mkX M YC E base 8 (rI r) σ') s11 79 [some (.ref (E.2.2 0)), some (.int a0), some (.int a1), some (.int t28), some (.int s14.2.1), some (.int s14.2.2.1), some (.int t24), some (.int s14.2.2.2.2)] [] := by
              refine v_iload6 (pc := 79) K dX3_runs_79 ?_
              refine v_iload4 (pc := 81) K dX3_runs_81 ?_
              obtain ⟨t32, h34, h⟩ := bd h
              have hJ33 : V (mkX M YC E base 8 (rI r) σ') s11 99 [some (.ref (E.2.2 0)), some (.int a0), some (.int a1), some (.int t28), some (.int t32.1), some (.int t32.2), some (.int t24), some (.int s14.2.2.2.2)] [] := by
                refine v_iinc7 (pc := 99) (w := 1) K dX3_runs_99 rfl (Nat.le_of_ble_eq_true rfl) (by decide) ?_
                refine v_goto (pc := 102) (tgt := 35) K dX3_runs_102 (by decide) ?_
                have e := lfc h hk
                exact e
              clear h
              have h := h34
              refine v_icmp_le (pc := 83) (tgt := 99) K dX3_runs_83 (by decide) (fun c35 => ?_) (fun c35 => ?_)
              · have h := it c35 h
                cases h
                exact hJ33
              · have h := ie c35 h
                refine v_iload6 (pc := 86) K dX3_runs_86 ?_
                refine v_istore4 (pc := 88) K dX3_runs_88 rfl (Nat.le_of_ble_eq_true rfl) ?_
                refine v_iload7 (pc := 90) K dX3_runs_90 ?_
                refine v_iload6 (pc := 92) K dX3_runs_92 ?_
                refine v_isub (pc := 94) K dX3_runs_94 ?_
                refine v_ic1 (pc := 95) K dX3_runs_95 ?_
                refine v_iadd (pc := 96) K dX3_runs_96 ?_
                refine v_istore5 (pc := 97) K dX3_runs_97 rfl (Nat.le_of_ble_eq_true rfl) ?_
                cases h
                exact hJ33
            clear h
            have h := h30
            refine v_icmp_ne (pc := 73) (tgt := 79) K dX3_runs_73 (by decide) (fun c31 => ?_) (fun c31 => ?_)
            · have h := ie c31 h
              cases h
              exact hJ29
            · have h := it c31 h
              refine v_iinc3 (pc := 76) (w := 1) K dX3_runs_76 rfl (Nat.le_of_ble_eq_true rfl) (by decide) ?_
              cases h
              exact hJ29
          clear h
          have h := h26
          refine v_if_eq (pc := 57) (tgt := 67) K dX3_runs_57 (by decide) (fun c27 => ?_) (fun c27 => ?_)
          · have h := it c27 h
            refine v_ic0 (pc := 67) K dX3_runs_67 ?_
            cases h
            exact (v_fg [true, true, true, true, true, true, false, true] hJ25)
          · have h := ie c27 h
            refine v_iload6 (pc := 60) K dX3_runs_60 ?_
            refine v_ic1 (pc := 62) K dX3_runs_62 ?_
            refine v_iadd (pc := 63) K dX3_runs_63 ?_
            refine v_goto (pc := 64) (tgt := 68) K dX3_runs_64 (by decide) ?_
            cases h
            exact (v_fg [true, true, true, true, true, true, false, true] hJ25)
      · cases hF
        exact v_cS1X (pc := 18)  K ca_yX3_needArgument ml_RX3_73 (t_X3_needArgument _ K.nt K.ad s2 t5 (.error e13) _ h12) (Nat.le_of_ble_eq_true rfl) (by decide) (by decide) dX3_runs_18 hN rfl rfl
    clear h
    have h := h7
    refine v_if_lt (pc := 5) (tgt := 17) K dX3_runs_5 (by decide) (fun c8 => ?_) (fun c8 => ?_)
    · have h := it c8 h
      refine v_ic0 (pc := 17) K dX3_runs_17 ?_
      cases h
      exact hJ6
    · have h := ie c8 h
      refine v_iload2 (pc := 8) K dX3_runs_8 ?_
      refine v_ic2 (pc := 9) K dX3_runs_9 ?_
      refine v_icmp_gt (pc := 10) (tgt := 17) K dX3_runs_10 (by decide) (fun c9 => ?_) (fun c9 => ?_)
      · have h := it c9 h
        refine v_ic0 (pc := 17) K dX3_runs_17 ?_
        cases h
        exact hJ6
      · have h := ie c9 h
        refine v_ic1 (pc := 13) K dX3_runs_13 ?_
        refine v_goto (pc := 14) (tgt := 18) K dX3_runs_14 (by decide) ?_
        cases h
        exact hJ6
  · cases hF
    exact v_cS1X (pc := 1)  K ca_yX3_needMask ml_RX3_125 (t_X3_needMask _ K.nt K.ad σ a0 (.error e4) _ h3) (Nat.le_of_ble_eq_true rfl) (by decide) (by decide) dX3_runs_1 hN rfl rfl
set_option maxRecDepth 100000 in
def c_X3_alike (σ : St) (a0 : Int32) (a1 : Int32) : Option (Except String Int32 × St) :=
  (xB (c_X3_needRow σ a0) fun _ s2 => (xB (c_X3_needRow s2 a1) fun _ s6 => ((c_X1_areAlike s6 a0 a1).bind fun v9 => ((if v9 = 0 then some (0 : Int32) else some (1 : Int32)).bind fun (t11 : Int32) => some (.ok t11, s6)))))
set_option maxHeartbeats 4000000 in
set_option maxRecDepth 100000 in
theorem t_X3_alike (l : Launch) (hnt : l.stackTraces = false) {E : Ev} {base : Nat} (hE : Adr YC E base) (σ : St) (a0 : Int32) (a1 : Int32) (r : Except String Int32) (σ' : St) (h : c_X3_alike σ a0 a1 = some (r, σ')) : Ctr l yX3_alike cX3_alike 3 (some .int) 7 121 YC E base [.ref (E.2.2 0), .int a0, .int a1] σ (rI r) σ' := by
  unfold c_X3_alike at h
  refine ofV 0 (by decide +kernel) rfl hE hnt (Nat.le_of_ble_eq_true rfl) rfl (fun M hN K => ?_)
  refine v_aload0 (pc := 0) K dX3_alike_0 ?_
  refine v_iload1 (pc := 1) K dX3_alike_1 ?_
  rcases xb h with ⟨v1, s2, h3, h⟩ | ⟨e4, s2, h3, hF⟩
  · refine v_cV1U (pc := 2) K ca_yX3_needRow ml_RX3_79 (Nat.le_of_ble_eq_true rfl) rfl rfl (t_X3_needRow _ K.nt K.ad σ a0 (.ok v1) s2 h3) (Nat.le_of_ble_eq_true rfl) (by decide) (by decide) dX3_alike_2 ?_
    refine v_aload0 (pc := 5) K dX3_alike_5 ?_
    refine v_iload2 (pc := 6) K dX3_alike_6 ?_
    rcases xb h with ⟨v5, s6, h7, h⟩ | ⟨e8, s6, h7, hF⟩
    · refine v_cV1U (pc := 7) K ca_yX3_needRow ml_RX3_79 (Nat.le_of_ble_eq_true rfl) rfl rfl (t_X3_needRow _ K.nt K.ad s2 a1 (.ok v5) s6 h7) (Nat.le_of_ble_eq_true rfl) (by decide) (by decide) dX3_alike_7 ?_
      refine v_aload0 (pc := 10) K dX3_alike_10 ?_
      refine v_getR (pc := 11) K fl_RX3_14 dX3_alike_11 (Nat.le_of_ble_eq_true rfl) rfl rfl ?_
      refine v_iload1 (pc := 14) K dX3_alike_14 ?_
      refine v_iload2 (pc := 15) K dX3_alike_15 ?_
      obtain ⟨v9, h10, h⟩ := bd h
      refine v_cV2I (pc := 16)  K ca_yX1_areAlike ml_RX3_183 (Nat.le_of_ble_eq_true rfl) rfl rfl (t_X1_areAlike _ K.nt K.ad s6 a0 a1 v9 h10) (Nat.le_of_ble_eq_true rfl) (by decide) (by decide) dX3_alike_16 ?_
      obtain ⟨t11, h13, h⟩ := bd h
      have hJ12 : V (mkX M YC E base 3 (rI r) σ') s6 27 [none, none, none] [.int t11] := by
        cases h
        exact v_iret (pc := 27) K dX3_alike_27 rfl rfl
      clear h
      have h := h13
      refine v_if_eq (pc := 19) (tgt := 26) K dX3_alike_19 (by decide) (fun c14 => ?_) (fun c14 => ?_)
      · have h := it c14 h
        refine v_ic0 (pc := 26) K dX3_alike_26 ?_
        cases h
        exact (v_fg [false, false, false] hJ12)
      · have h := ie c14 h
        refine v_ic1 (pc := 22) K dX3_alike_22 ?_
        refine v_goto (pc := 23) (tgt := 27) K dX3_alike_23 (by decide) ?_
        cases h
        exact (v_fg [false, false, false] hJ12)
    · cases hF
      exact v_cV1X (pc := 7)  K ca_yX3_needRow ml_RX3_79 (Nat.le_of_ble_eq_true rfl) rfl rfl (t_X3_needRow _ K.nt K.ad s2 a1 (.error e8) _ h7) (Nat.le_of_ble_eq_true rfl) (by decide) (by decide) dX3_alike_7 hN rfl rfl
  · cases hF
    exact v_cV1X (pc := 2)  K ca_yX3_needRow ml_RX3_79 (Nat.le_of_ble_eq_true rfl) rfl rfl (t_X3_needRow _ K.nt K.ad σ a0 (.error e4) _ h3) (Nat.le_of_ble_eq_true rfl) (by decide) (by decide) dX3_alike_2 hN rfl rfl
set_option maxRecDepth 100000 in
def c_X3_row (σ : St) (a0 : Int32) (a1 : Int32) : Option (Except String Int32 × St) :=
  (xB (c_X3_needMask σ a0) fun _ s2 => (if a1 = ((-1) : Int32) then ((c_X1_maskCount s2 a0).bind fun v19 => some (.ok v19, s2)) else (eB (lp 5000 (fun (s6 : Int32 × Int32) => (if s2.1 1 0 ≤ s6.2 then some (.inr (.inl ())) else ((c_X1_isUnder s2 s6.2 a0).bind fun v14 => (if v14 = 0 then some (.inl (s6.1, (s6.2 + 1))) else (if s6.1 = a1 then some (.inr (.inr (.ok s6.2, s2))) else some (.inl ((s6.1 + 1), (s6.2 + 1)))))))) ((0 : Int32), (0 : Int32))) fun (r7 : Unit) => some (.ok ((-1) : Int32), s2))))
set_option maxHeartbeats 4000000 in
set_option maxRecDepth 100000 in
theorem t_X3_row (l : Launch) (hnt : l.stackTraces = false) {E : Ev} {base : Nat} (hE : Adr YC E base) (σ : St) (a0 : Int32) (a1 : Int32) (r : Except String Int32) (σ' : St) (h : c_X3_row σ a0 a1 = some (r, σ')) : Ctr l yX3_row cX3_row 5 (some .int) 7 120 YC E base [.ref (E.2.2 0), .int a0, .int a1] σ (rI r) σ' := by
  unfold c_X3_row at h
  refine ofV 2 (by decide +kernel) rfl hE hnt (Nat.le_of_ble_eq_true rfl) rfl (fun M hN K => ?_)
  refine v_iload1 (pc := 0) K dX3_row_0 ?_
  rcases xb h with ⟨v1, s2, h3, h⟩ | ⟨e4, s2, h3, hF⟩
  · refine v_cS1U (pc := 1) K ca_yX3_needMask ml_RX3_125 (t_X3_needMask _ K.nt K.ad σ a0 (.ok v1) s2 h3) (Nat.le_of_ble_eq_true rfl) (by decide) (by decide) dX3_row_1 ?_
    refine v_iload2 (pc := 4) K dX3_row_4 ?_
    refine v_icm1 (pc := 5) K dX3_row_5 ?_
    refine v_icmp_ne (pc := 6) (tgt := 18) K dX3_row_6 (by decide) (fun c5 => ?_) (fun c5 => ?_)
    · have h := ie c5 h
      refine v_ic0 (pc := 18) K dX3_row_18 ?_
      refine v_istore3 (pc := 19) K dX3_row_19 rfl (Nat.le_of_ble_eq_true rfl) ?_
      refine v_ic0 (pc := 20) K dX3_row_20 ?_
      refine v_istore4 (pc := 21) K dX3_row_21 rfl (Nat.le_of_ble_eq_true rfl) ?_
      obtain ⟨w12, h9, hi10, hq11⟩ := eb h
      have hJ8 : ∀ r7 : Unit, w12 = .inl r7 → V (mkX M YC E base 5 (rI r) σ') s2 65 [none, none, none, none, none] [] := by
        intro r7 ha
        have h := hi10 _ ha
        refine v_icm1 (pc := 65) K dX3_row_65 ?_
        cases h
        exact v_iret (pc := 66) K dX3_row_66 rfl rfl
      clear h
      have hL18 := lpv h9 (fun s6 : Int32 × Int32 => V (mkX M YC E base 5 (rI r) σ') s2 23 [some (.ref (E.2.2 0)), some (.int a0), some (.int a1), some (.int s6.1), some (.int s6.2)] [])
      refine hL18 (fun s6 o h hk => ?_)
      refine v_iload4 (pc := 23) K dX3_row_23 ?_
      refine v_aload0 (pc := 25) K dX3_row_25 ?_
      refine v_getR (pc := 26) K fl_RX3_14 dX3_row_26 (Nat.le_of_ble_eq_true rfl) rfl rfl ?_
      refine v_getI (pc := 29) K fl_RX3_76 dX3_row_29 (Nat.le_of_ble_eq_true rfl) rfl rfl ?_
      refine v_icmp_ge (pc := 32) (tgt := 65) K dX3_row_32 (by decide) (fun c13 => ?_) (fun c13 => ?_)
      · have h := it c13 h
        have e := lx h hk
        exact v_fg [false, false, false, false, false] (hJ8 _ e.symm)
      · have h := ie c13 h
        refine v_aload0 (pc := 35) K dX3_row_35 ?_
        refine v_getR (pc := 36) K fl_RX3_14 dX3_row_36 (Nat.le_of_ble_eq_true rfl) rfl rfl ?_
        refine v_iload4 (pc := 39) K dX3_row_39 ?_
        refine v_iload1 (pc := 41) K dX3_row_41 ?_
        obtain ⟨v14, h15, h⟩ := bd h
        refine v_cV2I (pc := 42)  K ca_yX1_isUnder ml_RX3_162 (Nat.le_of_ble_eq_true rfl) rfl rfl (t_X1_isUnder _ K.nt K.ad s2 s6.2 a0 v14 h15) (Nat.le_of_ble_eq_true rfl) (by decide) (by decide) dX3_row_42 ?_
        refine v_if_eq (pc := 45) (tgt := 59) K dX3_row_45 (by decide) (fun c16 => ?_) (fun c16 => ?_)
        · have h := it c16 h
          refine v_iinc4 (pc := 59) (w := 1) K dX3_row_59 rfl (Nat.le_of_ble_eq_true rfl) (by decide) ?_
          refine v_goto (pc := 62) (tgt := 23) K dX3_row_62 (by decide) ?_
          have e := lfc h hk
          exact e
        · have h := ie c16 h
          refine v_iload3 (pc := 48) K dX3_row_48 ?_
          refine v_iload2 (pc := 49) K dX3_row_49 ?_
          refine v_icmp_ne (pc := 50) (tgt := 56) K dX3_row_50 (by decide) (fun c17 => ?_) (fun c17 => ?_)
          · have h := ie c17 h
            refine v_iinc3 (pc := 56) (w := 1) K dX3_row_56 rfl (Nat.le_of_ble_eq_true rfl) (by decide) ?_
            refine v_iinc4 (pc := 59) (w := 1) K dX3_row_59 rfl (Nat.le_of_ble_eq_true rfl) (by decide) ?_
            refine v_goto (pc := 62) (tgt := 23) K dX3_row_62 (by decide) ?_
            have e := lfc h hk
            exact e
          · have h := it c17 h
            refine v_iload4 (pc := 53) K dX3_row_53 ?_
            have h := congrArg some (hq11 _ (lx h hk).symm)
            cases h
            exact v_iret (pc := 55) K dX3_row_55 rfl rfl
    · have h := it c5 h
      refine v_aload0 (pc := 9) K dX3_row_9 ?_
      refine v_getR (pc := 10) K fl_RX3_14 dX3_row_10 (Nat.le_of_ble_eq_true rfl) rfl rfl ?_
      refine v_iload1 (pc := 13) K dX3_row_13 ?_
      obtain ⟨v19, h20, h⟩ := bd h
      refine v_cV1I (pc := 14)  K ca_yX1_maskCount ml_RX3_141 (Nat.le_of_ble_eq_true rfl) rfl rfl (t_X1_maskCount _ K.nt K.ad s2 a0 v19 h20) (Nat.le_of_ble_eq_true rfl) (by decide) (by decide) dX3_row_14 ?_
      cases h
      exact v_iret (pc := 17) K dX3_row_17 rfl rfl
  · cases hF
    exact v_cS1X (pc := 1)  K ca_yX3_needMask ml_RX3_125 (t_X3_needMask _ K.nt K.ad σ a0 (.error e4) _ h3) (Nat.le_of_ble_eq_true rfl) (by decide) (by decide) dX3_row_1 hN rfl rfl
