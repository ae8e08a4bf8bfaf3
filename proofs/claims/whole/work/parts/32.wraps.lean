set_option maxRecDepth 100000 in
theorem tw_column_ok (l : Launch) (hnt : l.stackTraces = false) {E : Ev} {base : Nat} (hE : Adr YO E base) (σ : St) (a0 : Int32) (v : Int32) (σ1 : St) (h : c_X3_column σ a0 = some (.ok v, σ1)) : WCtr l yL_column cL_column 4 [(0, 9, 12, 13), (0, 9, 15, 15)] 9 162 E base [.ref (E.2.2 0), .int a0, .ref (E.2.2 28)] σ 0 (sL (mgO σ1 σ) 28 0 v.toInt64) := by
  refine ofWW 1 (by decide +kernel) rfl hE hnt (Nat.le_of_ble_eq_true rfl) rfl (fun M hT hN K => ?_)
  refine v_aload2 (pc := 0) K dL_column_0 ?_
  refine v_ic0 (pc := 1) K dL_column_1 ?_
  refine v_aload0 (pc := 2) K dL_column_2 ?_
  refine v_iload1 (pc := 3) K dL_column_3 ?_
  refine w_c1I (pc := 4) K ca_yX3_column ml_RL_7 rfl (t_X3_column _ K.nt (AdrOC K.ad) σ a0 (.ok v) σ1 h) (Nat.le_of_ble_eq_true rfl) (by decide) (by decide) dL_column_4 ?_
  refine v_i2l (pc := 7) K dL_column_7 ?_
  refine v_lastore (pc := 8) (i := 28) (n := 1) K dL_column_8 (Nat.le_of_ble_eq_true rfl) rfl ix01 ?_
  refine v_goto (pc := 9) (tgt := 18) K dL_column_9 (by decide) ?_
  refine v_ic0 (pc := 18) K dL_column_18 ?_
  exact v_wret (pc := 19) K dL_column_19 rfl (by decide) (by decide)
set_option maxRecDepth 100000 in
theorem tw_column_e1 (l : Launch) (hnt : l.stackTraces = false) {E : Ev} {base : Nat} (hE : Adr YO E base) (σ : St) (a0 : Int32)  (σ1 : St) (h : c_X3_column σ a0 = some (.error "java/lang/IllegalArgumentException", σ1)) : WCtr l yL_column cL_column 4 [(0, 9, 12, 13), (0, 9, 15, 15)] 9 162 E base [.ref (E.2.2 0), .int a0, .ref (E.2.2 28)] σ 1 (mgO σ1 σ) := by
  refine ofWW 1 (by decide +kernel) rfl hE hnt (Nat.le_of_ble_eq_true rfl) rfl (fun M hT hN K => ?_)
  refine v_aload2 (pc := 0) K dL_column_0 ?_
  refine v_ic0 (pc := 1) K dL_column_1 ?_
  refine v_aload0 (pc := 2) K dL_column_2 ?_
  refine v_iload1 (pc := 3) K dL_column_3 ?_
  refine w_c1E (pc := 4) K ca_yX3_column ml_RL_7 rfl (t_X3_column _ K.nt (AdrOC K.ad) σ a0 (.error "java/lang/IllegalArgumentException") σ1 h) (Nat.le_of_ble_eq_true rfl) (by decide) (by decide) dL_column_4 (fun H1 locs1 ls ce q hP hS hl hce hcv hcl => ?_)
  refine w_catch (pre := []) (x := ⟨0, 9, 12, 13⟩) (suf := [⟨0, 9, 15, 15⟩]) K hN (hT.trans rfl) (fun z hz => nomatch hz) (by decide) (by decide) kl_13 (by decide +kernel) hP hS hl hce hcv hcl ?_
  have K := w_up K
  refine v_astore3 (pc := 12) K dL_column_12 rfl (Nat.le_of_ble_eq_true rfl) ?_
  refine v_ic1 (pc := 13) K dL_column_13 ?_
  exact v_wret (pc := 14) K dL_column_14 rfl (by decide) (by decide)
set_option maxRecDepth 100000 in
theorem tw_column_e2 (l : Launch) (hnt : l.stackTraces = false) {E : Ev} {base : Nat} (hE : Adr YO E base) (σ : St) (a0 : Int32)  (σ1 : St) (h : c_X3_column σ a0 = some (.error "java/lang/IllegalStateException", σ1)) : WCtr l yL_column cL_column 4 [(0, 9, 12, 13), (0, 9, 15, 15)] 9 162 E base [.ref (E.2.2 0), .int a0, .ref (E.2.2 28)] σ 2 (mgO σ1 σ) := by
  refine ofWW 1 (by decide +kernel) rfl hE hnt (Nat.le_of_ble_eq_true rfl) rfl (fun M hT hN K => ?_)
  refine v_aload2 (pc := 0) K dL_column_0 ?_
  refine v_ic0 (pc := 1) K dL_column_1 ?_
  refine v_aload0 (pc := 2) K dL_column_2 ?_
  refine v_iload1 (pc := 3) K dL_column_3 ?_
  refine w_c1E (pc := 4) K ca_yX3_column ml_RL_7 rfl (t_X3_column _ K.nt (AdrOC K.ad) σ a0 (.error "java/lang/IllegalStateException") σ1 h) (Nat.le_of_ble_eq_true rfl) (by decide) (by decide) dL_column_4 (fun H1 locs1 ls ce q hP hS hl hce hcv hcl => ?_)
  refine w_catch (pre := [⟨0, 9, 12, 13⟩]) (x := ⟨0, 9, 15, 15⟩) (suf := []) K hN (hT.trans rfl) (fun z hz => by rw [List.mem_singleton.mp hz]; exact ⟨by decide, "java/lang/IllegalArgumentException", kl_13, by decide +kernel⟩) (by decide) (by decide) kl_15 (by decide +kernel) hP hS hl hce hcv hcl ?_
  have K := w_up K
  refine v_astore3 (pc := 15) K dL_column_15 rfl (Nat.le_of_ble_eq_true rfl) ?_
  refine v_ic2 (pc := 16) K dL_column_16 ?_
  exact v_wret (pc := 17) K dL_column_17 rfl (by decide) (by decide)
set_option maxRecDepth 100000 in
theorem tw_drop_ok (l : Launch) (hnt : l.stackTraces = false) {E : Ev} {base : Nat} (hE : Adr YO E base) (σ : St) (a0 : Int32) (v : Int32) (σ1 : St) (h : c_X3_drop σ a0 = some (.ok v, σ1)) : WCtr l yL_drop cL_drop 4 [(0, 9, 12, 20)] 8 143 E base [.ref (E.2.2 0), .int a0, .ref (E.2.2 28)] σ 0 (sL (mgO σ1 σ) 28 0 v.toInt64) := by
  refine ofWW 1 (by decide +kernel) rfl hE hnt (Nat.le_of_ble_eq_true rfl) rfl (fun M hT hN K => ?_)
  refine v_aload2 (pc := 0) K dL_drop_0 ?_
  refine v_ic0 (pc := 1) K dL_drop_1 ?_
  refine v_aload0 (pc := 2) K dL_drop_2 ?_
  refine v_iload1 (pc := 3) K dL_drop_3 ?_
  refine w_c1I (pc := 4) K ca_yX3_drop ml_RL_17 rfl (t_X3_drop _ K.nt (AdrOC K.ad) σ a0 (.ok v) σ1 h) (Nat.le_of_ble_eq_true rfl) (by decide) (by decide) dL_drop_4 ?_
  refine v_i2l (pc := 7) K dL_drop_7 ?_
  refine v_lastore (pc := 8) (i := 28) (n := 1) K dL_drop_8 (Nat.le_of_ble_eq_true rfl) rfl ix01 ?_
  refine v_goto (pc := 9) (tgt := 15) K dL_drop_9 (by decide) ?_
  refine v_ic0 (pc := 15) K dL_drop_15 ?_
  exact v_wret (pc := 16) K dL_drop_16 rfl (by decide) (by decide)
set_option maxRecDepth 100000 in
theorem tw_drop_e1 (l : Launch) (hnt : l.stackTraces = false) {E : Ev} {base : Nat} (hE : Adr YO E base) (σ : St) (a0 : Int32)  (σ1 : St) (h : c_X3_drop σ a0 = some (.error "java/lang/IndexOutOfBoundsException", σ1)) : WCtr l yL_drop cL_drop 4 [(0, 9, 12, 20)] 8 143 E base [.ref (E.2.2 0), .int a0, .ref (E.2.2 28)] σ 1 (mgO σ1 σ) := by
  refine ofWW 1 (by decide +kernel) rfl hE hnt (Nat.le_of_ble_eq_true rfl) rfl (fun M hT hN K => ?_)
  refine v_aload2 (pc := 0) K dL_drop_0 ?_
  refine v_ic0 (pc := 1) K dL_drop_1 ?_
  refine v_aload0 (pc := 2) K dL_drop_2 ?_
  refine v_iload1 (pc := 3) K dL_drop_3 ?_
  refine w_c1E (pc := 4) K ca_yX3_drop ml_RL_17 rfl (t_X3_drop _ K.nt (AdrOC K.ad) σ a0 (.error "java/lang/IndexOutOfBoundsException") σ1 h) (Nat.le_of_ble_eq_true rfl) (by decide) (by decide) dL_drop_4 (fun H1 locs1 ls ce q hP hS hl hce hcv hcl => ?_)
  refine w_catch (pre := []) (x := ⟨0, 9, 12, 20⟩) (suf := []) K hN (hT.trans rfl) (fun z hz => nomatch hz) (by decide) (by decide) kl_20 (by decide +kernel) hP hS hl hce hcv hcl ?_
  have K := w_up K
  refine v_astore3 (pc := 12) K dL_drop_12 rfl (Nat.le_of_ble_eq_true rfl) ?_
  refine v_ic1 (pc := 13) K dL_drop_13 ?_
  exact v_wret (pc := 14) K dL_drop_14 rfl (by decide) (by decide)
set_option maxRecDepth 100000 in
theorem tw_rows_ok (l : Launch) (hnt : l.stackTraces = false) {E : Ev} {base : Nat} (hE : Adr YO E base) (σ : St) (a0 : Int32) (v : Int32) (σ1 : St) (h : c_X3_rows σ a0 = some (.ok v, σ1)) : WCtr l yL_rows cL_rows 4 [(0, 9, 12, 13), (0, 9, 15, 15)] 8 143 E base [.ref (E.2.2 0), .int a0, .ref (E.2.2 28)] σ 0 (sL (mgO σ1 σ) 28 0 v.toInt64) := by
  refine ofWW 1 (by decide +kernel) rfl hE hnt (Nat.le_of_ble_eq_true rfl) rfl (fun M hT hN K => ?_)
  refine v_aload2 (pc := 0) K dL_rows_0 ?_
  refine v_ic0 (pc := 1) K dL_rows_1 ?_
  refine v_aload0 (pc := 2) K dL_rows_2 ?_
  refine v_iload1 (pc := 3) K dL_rows_3 ?_
  refine w_c1I (pc := 4) K ca_yX3_rows ml_RL_22 rfl (t_X3_rows _ K.nt (AdrOC K.ad) σ a0 (.ok v) σ1 h) (Nat.le_of_ble_eq_true rfl) (by decide) (by decide) dL_rows_4 ?_
  refine v_i2l (pc := 7) K dL_rows_7 ?_
  refine v_lastore (pc := 8) (i := 28) (n := 1) K dL_rows_8 (Nat.le_of_ble_eq_true rfl) rfl ix01 ?_
  refine v_goto (pc := 9) (tgt := 18) K dL_rows_9 (by decide) ?_
  refine v_ic0 (pc := 18) K dL_rows_18 ?_
  exact v_wret (pc := 19) K dL_rows_19 rfl (by decide) (by decide)
set_option maxRecDepth 100000 in
theorem tw_rows_e1 (l : Launch) (hnt : l.stackTraces = false) {E : Ev} {base : Nat} (hE : Adr YO E base) (σ : St) (a0 : Int32)  (σ1 : St) (h : c_X3_rows σ a0 = some (.error "java/lang/IllegalArgumentException", σ1)) : WCtr l yL_rows cL_rows 4 [(0, 9, 12, 13), (0, 9, 15, 15)] 8 143 E base [.ref (E.2.2 0), .int a0, .ref (E.2.2 28)] σ 1 (mgO σ1 σ) := by
  refine ofWW 1 (by decide +kernel) rfl hE hnt (Nat.le_of_ble_eq_true rfl) rfl (fun M hT hN K => ?_)
  refine v_aload2 (pc := 0) K dL_rows_0 ?_
  refine v_ic0 (pc := 1) K dL_rows_1 ?_
  refine v_aload0 (pc := 2) K dL_rows_2 ?_
  refine v_iload1 (pc := 3) K dL_rows_3 ?_
  refine w_c1E (pc := 4) K ca_yX3_rows ml_RL_22 rfl (t_X3_rows _ K.nt (AdrOC K.ad) σ a0 (.error "java/lang/IllegalArgumentException") σ1 h) (Nat.le_of_ble_eq_true rfl) (by decide) (by decide) dL_rows_4 (fun H1 locs1 ls ce q hP hS hl hce hcv hcl => ?_)
  refine w_catch (pre := []) (x := ⟨0, 9, 12, 13⟩) (suf := [⟨0, 9, 15, 15⟩]) K hN (hT.trans rfl) (fun z hz => nomatch hz) (by decide) (by decide) kl_13 (by decide +kernel) hP hS hl hce hcv hcl ?_
  have K := w_up K
  refine v_astore3 (pc := 12) K dL_rows_12 rfl (Nat.le_of_ble_eq_true rfl) ?_
  refine v_ic1 (pc := 13) K dL_rows_13 ?_
  exact v_wret (pc := 14) K dL_rows_14 rfl (by decide) (by decide)
set_option maxRecDepth 100000 in
theorem tw_rows_e2 (l : Launch) (hnt : l.stackTraces = false) {E : Ev} {base : Nat} (hE : Adr YO E base) (σ : St) (a0 : Int32)  (σ1 : St) (h : c_X3_rows σ a0 = some (.error "java/lang/IllegalStateException", σ1)) : WCtr l yL_rows cL_rows 4 [(0, 9, 12, 13), (0, 9, 15, 15)] 8 143 E base [.ref (E.2.2 0), .int a0, .ref (E.2.2 28)] σ 2 (mgO σ1 σ) := by
  refine ofWW 1 (by decide +kernel) rfl hE hnt (Nat.le_of_ble_eq_true rfl) rfl (fun M hT hN K => ?_)
  refine v_aload2 (pc := 0) K dL_rows_0 ?_
  refine v_ic0 (pc := 1) K dL_rows_1 ?_
  refine v_aload0 (pc := 2) K dL_rows_2 ?_
  refine v_iload1 (pc := 3) K dL_rows_3 ?_
  refine w_c1E (pc := 4) K ca_yX3_rows ml_RL_22 rfl (t_X3_rows _ K.nt (AdrOC K.ad) σ a0 (.error "java/lang/IllegalStateException") σ1 h) (Nat.le_of_ble_eq_true rfl) (by decide) (by decide) dL_rows_4 (fun H1 locs1 ls ce q hP hS hl hce hcv hcl => ?_)
  refine w_catch (pre := [⟨0, 9, 12, 13⟩]) (x := ⟨0, 9, 15, 15⟩) (suf := []) K hN (hT.trans rfl) (fun z hz => by rw [List.mem_singleton.mp hz]; exact ⟨by decide, "java/lang/IllegalArgumentException", kl_13, by decide +kernel⟩) (by decide) (by decide) kl_15 (by decide +kernel) hP hS hl hce hcv hcl ?_
  have K := w_up K
  refine v_astore3 (pc := 15) K dL_rows_15 rfl (Nat.le_of_ble_eq_true rfl) ?_
  refine v_ic2 (pc := 16) K dL_rows_16 ?_
  exact v_wret (pc := 17) K dL_rows_17 rfl (by decide) (by decide)
set_option maxRecDepth 100000 in
theorem tw_set_ok (l : Launch) (hnt : l.stackTraces = false) {E : Ev} {base : Nat} (hE : Adr YO E base) (σ : St) (a0 : Int32) (a1 : Int32) (a2 : Int64) (v : Int32) (σ1 : St) (h : c_X3_set σ a0 a1 a2 = some (.ok v, σ1)) : WCtr l yL_set cL_set 7 [(0, 12, 15, 20), (0, 12, 19, 29)] 9 169 E base [.ref (E.2.2 0), .int a0, .int a1, .long a2, .ref (E.2.2 28)] σ 0 (sL (mgO σ1 σ) 28 0 v.toInt64) := by
  refine ofWW 1 (by decide +kernel) rfl hE hnt (Nat.le_of_ble_eq_true rfl) rfl (fun M hT hN K => ?_)
  refine v_aload5 (pc := 0) K dL_set_0 ?_
  refine v_ic0 (pc := 2) K dL_set_2 ?_
  refine v_aload0 (pc := 3) K dL_set_3 ?_
  refine v_iload1 (pc := 4) K dL_set_4 ?_
  refine v_iload2 (pc := 5) K dL_set_5 ?_
  refine v_lload3 (pc := 6) K dL_set_6 ?_
  refine w_c3I (pc := 7) K ca_yX3_set ml_RL_25 rfl (t_X3_set _ K.nt (AdrOC K.ad) σ a0 a1 a2 (.ok v) σ1 h) (Nat.le_of_ble_eq_true rfl) (by decide) (by decide) dL_set_7 ?_
  refine v_i2l (pc := 10) K dL_set_10 ?_
  refine v_lastore (pc := 11) (i := 28) (n := 1) K dL_set_11 (Nat.le_of_ble_eq_true rfl) rfl ix01 ?_
  refine v_goto (pc := 12) (tgt := 23) K dL_set_12 (by decide) ?_
  refine v_ic0 (pc := 23) K dL_set_23 ?_
  exact v_wret (pc := 24) K dL_set_24 rfl (by decide) (by decide)
set_option maxRecDepth 100000 in
theorem tw_set_e1 (l : Launch) (hnt : l.stackTraces = false) {E : Ev} {base : Nat} (hE : Adr YO E base) (σ : St) (a0 : Int32) (a1 : Int32) (a2 : Int64)  (σ1 : St) (h : c_X3_set σ a0 a1 a2 = some (.error "java/lang/IndexOutOfBoundsException", σ1)) : WCtr l yL_set cL_set 7 [(0, 12, 15, 20), (0, 12, 19, 29)] 9 169 E base [.ref (E.2.2 0), .int a0, .int a1, .long a2, .ref (E.2.2 28)] σ 1 (mgO σ1 σ) := by
  refine ofWW 1 (by decide +kernel) rfl hE hnt (Nat.le_of_ble_eq_true rfl) rfl (fun M hT hN K => ?_)
  refine v_aload5 (pc := 0) K dL_set_0 ?_
  refine v_ic0 (pc := 2) K dL_set_2 ?_
  refine v_aload0 (pc := 3) K dL_set_3 ?_
  refine v_iload1 (pc := 4) K dL_set_4 ?_
  refine v_iload2 (pc := 5) K dL_set_5 ?_
  refine v_lload3 (pc := 6) K dL_set_6 ?_
  refine w_c3E (pc := 7) K ca_yX3_set ml_RL_25 rfl (t_X3_set _ K.nt (AdrOC K.ad) σ a0 a1 a2 (.error "java/lang/IndexOutOfBoundsException") σ1 h) (Nat.le_of_ble_eq_true rfl) (by decide) (by decide) dL_set_7 (fun H1 locs1 ls ce q hP hS hl hce hcv hcl => ?_)
  refine w_catch (pre := []) (x := ⟨0, 12, 15, 20⟩) (suf := [⟨0, 12, 19, 29⟩]) K hN (hT.trans rfl) (fun z hz => nomatch hz) (by decide) (by decide) kl_20 (by decide +kernel) hP hS hl hce hcv hcl ?_
  have K := w_up K
  refine v_astore6 (pc := 15) K dL_set_15 rfl (Nat.le_of_ble_eq_true rfl) ?_
  refine v_ic1 (pc := 17) K dL_set_17 ?_
  exact v_wret (pc := 18) K dL_set_18 rfl (by decide) (by decide)
set_option maxRecDepth 100000 in
theorem tw_set_e2 (l : Launch) (hnt : l.stackTraces = false) {E : Ev} {base : Nat} (hE : Adr YO E base) (σ : St) (a0 : Int32) (a1 : Int32) (a2 : Int64)  (σ1 : St) (h : c_X3_set σ a0 a1 a2 = some (.error "java/lang/ArithmeticException", σ1)) : WCtr l yL_set cL_set 7 [(0, 12, 15, 20), (0, 12, 19, 29)] 9 169 E base [.ref (E.2.2 0), .int a0, .int a1, .long a2, .ref (E.2.2 28)] σ 2 (mgO σ1 σ) := by
  refine ofWW 1 (by decide +kernel) rfl hE hnt (Nat.le_of_ble_eq_true rfl) rfl (fun M hT hN K => ?_)
  refine v_aload5 (pc := 0) K dL_set_0 ?_
  refine v_ic0 (pc := 2) K dL_set_2 ?_
  refine v_aload0 (pc := 3) K dL_set_3 ?_
  refine v_iload1 (pc := 4) K dL_set_4 ?_
  refine v_iload2 (pc := 5) K dL_set_5 ?_
  refine v_lload3 (pc := 6) K dL_set_6 ?_
  refine w_c3E (pc := 7) K ca_yX3_set ml_RL_25 rfl (t_X3_set _ K.nt (AdrOC K.ad) σ a0 a1 a2 (.error "java/lang/ArithmeticException") σ1 h) (Nat.le_of_ble_eq_true rfl) (by decide) (by decide) dL_set_7 (fun H1 locs1 ls ce q hP hS hl hce hcv hcl => ?_)
  refine w_catch (pre := [⟨0, 12, 15, 20⟩]) (x := ⟨0, 12, 19, 29⟩) (suf := []) K hN (hT.trans rfl) (fun z hz => by rw [List.mem_singleton.mp hz]; exact ⟨by decide, "java/lang/IndexOutOfBoundsException", kl_20, by decide +kernel⟩) (by decide) (by decide) kl_29 (by decide +kernel) hP hS hl hce hcv hcl ?_
  have K := w_up K
  refine v_astore6 (pc := 19) K dL_set_19 rfl (Nat.le_of_ble_eq_true rfl) ?_
  refine v_ic2 (pc := 21) K dL_set_21 ?_
  exact v_wret (pc := 22) K dL_set_22 rfl (by decide) (by decide)
set_option maxRecDepth 100000 in
theorem tw_clear_ok (l : Launch) (hnt : l.stackTraces = false) {E : Ev} {base : Nat} (hE : Adr YO E base) (σ : St) (a0 : Int32) (a1 : Int32) (v : Int32) (σ1 : St) (h : c_X3_clear σ a0 a1 = some (.ok v, σ1)) : WCtr l yL_clear cL_clear 5 [(0, 10, 13, 20)] 8 144 E base [.ref (E.2.2 0), .int a0, .int a1, .ref (E.2.2 28)] σ 0 (sL (mgO σ1 σ) 28 0 v.toInt64) := by
  refine ofWW 1 (by decide +kernel) rfl hE hnt (Nat.le_of_ble_eq_true rfl) rfl (fun M hT hN K => ?_)
  refine v_aload3 (pc := 0) K dL_clear_0 ?_
  refine v_ic0 (pc := 1) K dL_clear_1 ?_
  refine v_aload0 (pc := 2) K dL_clear_2 ?_
  refine v_iload1 (pc := 3) K dL_clear_3 ?_
  refine v_iload2 (pc := 4) K dL_clear_4 ?_
  refine w_c2I (pc := 5) K ca_yX3_clear ml_RL_31 rfl (t_X3_clear _ K.nt (AdrOC K.ad) σ a0 a1 (.ok v) σ1 h) (Nat.le_of_ble_eq_true rfl) (by decide) (by decide) dL_clear_5 ?_
  refine v_i2l (pc := 8) K dL_clear_8 ?_
  refine v_lastore (pc := 9) (i := 28) (n := 1) K dL_clear_9 (Nat.le_of_ble_eq_true rfl) rfl ix01 ?_
  refine v_goto (pc := 10) (tgt := 17) K dL_clear_10 (by decide) ?_
  refine v_ic0 (pc := 17) K dL_clear_17 ?_
  exact v_wret (pc := 18) K dL_clear_18 rfl (by decide) (by decide)
set_option maxRecDepth 100000 in
theorem tw_clear_e1 (l : Launch) (hnt : l.stackTraces = false) {E : Ev} {base : Nat} (hE : Adr YO E base) (σ : St) (a0 : Int32) (a1 : Int32)  (σ1 : St) (h : c_X3_clear σ a0 a1 = some (.error "java/lang/IndexOutOfBoundsException", σ1)) : WCtr l yL_clear cL_clear 5 [(0, 10, 13, 20)] 8 144 E base [.ref (E.2.2 0), .int a0, .int a1, .ref (E.2.2 28)] σ 1 (mgO σ1 σ) := by
  refine ofWW 1 (by decide +kernel) rfl hE hnt (Nat.le_of_ble_eq_true rfl) rfl (fun M hT hN K => ?_)
  refine v_aload3 (pc := 0) K dL_clear_0 ?_
  refine v_ic0 (pc := 1) K dL_clear_1 ?_
  refine v_aload0 (pc := 2) K dL_clear_2 ?_
  refine v_iload1 (pc := 3) K dL_clear_3 ?_
  refine v_iload2 (pc := 4) K dL_clear_4 ?_
  refine w_c2E (pc := 5) K ca_yX3_clear ml_RL_31 rfl (t_X3_clear _ K.nt (AdrOC K.ad) σ a0 a1 (.error "java/lang/IndexOutOfBoundsException") σ1 h) (Nat.le_of_ble_eq_true rfl) (by decide) (by decide) dL_clear_5 (fun H1 locs1 ls ce q hP hS hl hce hcv hcl => ?_)
  refine w_catch (pre := []) (x := ⟨0, 10, 13, 20⟩) (suf := []) K hN (hT.trans rfl) (fun z hz => nomatch hz) (by decide) (by decide) kl_20 (by decide +kernel) hP hS hl hce hcv hcl ?_
  have K := w_up K
  refine v_astore4 (pc := 13) K dL_clear_13 rfl (Nat.le_of_ble_eq_true rfl) ?_
  refine v_ic1 (pc := 15) K dL_clear_15 ?_
  exact v_wret (pc := 16) K dL_clear_16 rfl (by decide) (by decide)
set_option maxRecDepth 100000 in
theorem tw_get_ok (l : Launch) (hnt : l.stackTraces = false) {E : Ev} {base : Nat} (hE : Adr YO E base) (σ : St) (a0 : Int32) (a1 : Int32) (v : Int64) (σ1 : St) (h : c_X3_get σ a0 a1 = some (.ok v, σ1)) : WCtr l yL_get cL_get 5 [(0, 9, 12, 20)] 8 143 E base [.ref (E.2.2 0), .int a0, .int a1, .ref (E.2.2 28)] σ 0 (sL (mgO σ1 σ) 28 0 v) := by
  refine ofWW 1 (by decide +kernel) rfl hE hnt (Nat.le_of_ble_eq_true rfl) rfl (fun M hT hN K => ?_)
  refine v_aload3 (pc := 0) K dL_get_0 ?_
  refine v_ic0 (pc := 1) K dL_get_1 ?_
  refine v_aload0 (pc := 2) K dL_get_2 ?_
  refine v_iload1 (pc := 3) K dL_get_3 ?_
  refine v_iload2 (pc := 4) K dL_get_4 ?_
  refine w_c2L (pc := 5) K ca_yX3_get ml_RL_35 rfl (t_X3_get _ K.nt (AdrOC K.ad) σ a0 a1 (.ok v) σ1 h) (Nat.le_of_ble_eq_true rfl) (by decide) (by decide) dL_get_5 ?_
  refine v_lastore (pc := 8) (i := 28) (n := 1) K dL_get_8 (Nat.le_of_ble_eq_true rfl) rfl ix01 ?_
  refine v_goto (pc := 9) (tgt := 16) K dL_get_9 (by decide) ?_
  refine v_ic0 (pc := 16) K dL_get_16 ?_
  exact v_wret (pc := 17) K dL_get_17 rfl (by decide) (by decide)
set_option maxRecDepth 100000 in
theorem tw_get_e1 (l : Launch) (hnt : l.stackTraces = false) {E : Ev} {base : Nat} (hE : Adr YO E base) (σ : St) (a0 : Int32) (a1 : Int32)  (σ1 : St) (h : c_X3_get σ a0 a1 = some (.error "java/lang/IndexOutOfBoundsException", σ1)) : WCtr l yL_get cL_get 5 [(0, 9, 12, 20)] 8 143 E base [.ref (E.2.2 0), .int a0, .int a1, .ref (E.2.2 28)] σ 1 (mgO σ1 σ) := by
  refine ofWW 1 (by decide +kernel) rfl hE hnt (Nat.le_of_ble_eq_true rfl) rfl (fun M hT hN K => ?_)
  refine v_aload3 (pc := 0) K dL_get_0 ?_
  refine v_ic0 (pc := 1) K dL_get_1 ?_
  refine v_aload0 (pc := 2) K dL_get_2 ?_
  refine v_iload1 (pc := 3) K dL_get_3 ?_
  refine v_iload2 (pc := 4) K dL_get_4 ?_
  refine w_c2E (pc := 5) K ca_yX3_get ml_RL_35 rfl (t_X3_get _ K.nt (AdrOC K.ad) σ a0 a1 (.error "java/lang/IndexOutOfBoundsException") σ1 h) (Nat.le_of_ble_eq_true rfl) (by decide) (by decide) dL_get_5 (fun H1 locs1 ls ce q hP hS hl hce hcv hcl => ?_)
  refine w_catch (pre := []) (x := ⟨0, 9, 12, 20⟩) (suf := []) K hN (hT.trans rfl) (fun z hz => nomatch hz) (by decide) (by decide) kl_20 (by decide +kernel) hP hS hl hce hcv hcl ?_
  have K := w_up K
  refine v_astore4 (pc := 12) K dL_get_12 rfl (Nat.le_of_ble_eq_true rfl) ?_
  refine v_ic1 (pc := 14) K dL_get_14 ?_
  exact v_wret (pc := 15) K dL_get_15 rfl (by decide) (by decide)
set_option maxRecDepth 100000 in
theorem tw_width_ok (l : Launch) (hnt : l.stackTraces = false) {E : Ev} {base : Nat} (hE : Adr YO E base) (σ : St) (a0 : Int32) (a1 : Int32) (v : Int32) (σ1 : St) (h : c_X3_width σ a0 a1 = some (.ok v, σ1)) : WCtr l yL_width cL_width 5 [(0, 10, 13, 20), (0, 10, 17, 13)] 8 143 E base [.ref (E.2.2 0), .int a0, .int a1, .ref (E.2.2 28)] σ 0 (sL (mgO σ1 σ) 28 0 v.toInt64) := by
  refine ofWW 1 (by decide +kernel) rfl hE hnt (Nat.le_of_ble_eq_true rfl) rfl (fun M hT hN K => ?_)
  refine v_aload3 (pc := 0) K dL_width_0 ?_
  refine v_ic0 (pc := 1) K dL_width_1 ?_
  refine v_aload0 (pc := 2) K dL_width_2 ?_
  refine v_iload1 (pc := 3) K dL_width_3 ?_
  refine v_iload2 (pc := 4) K dL_width_4 ?_
  refine w_c2I (pc := 5) K ca_yX3_width ml_RL_39 rfl (t_X3_width _ K.nt (AdrOC K.ad) σ a0 a1 (.ok v) σ1 h) (Nat.le_of_ble_eq_true rfl) (by decide) (by decide) dL_width_5 ?_
  refine v_i2l (pc := 8) K dL_width_8 ?_
  refine v_lastore (pc := 9) (i := 28) (n := 1) K dL_width_9 (Nat.le_of_ble_eq_true rfl) rfl ix01 ?_
  refine v_goto (pc := 10) (tgt := 21) K dL_width_10 (by decide) ?_
  refine v_ic0 (pc := 21) K dL_width_21 ?_
  exact v_wret (pc := 22) K dL_width_22 rfl (by decide) (by decide)
set_option maxRecDepth 100000 in
theorem tw_width_e1 (l : Launch) (hnt : l.stackTraces = false) {E : Ev} {base : Nat} (hE : Adr YO E base) (σ : St) (a0 : Int32) (a1 : Int32)  (σ1 : St) (h : c_X3_width σ a0 a1 = some (.error "java/lang/IndexOutOfBoundsException", σ1)) : WCtr l yL_width cL_width 5 [(0, 10, 13, 20), (0, 10, 17, 13)] 8 143 E base [.ref (E.2.2 0), .int a0, .int a1, .ref (E.2.2 28)] σ 1 (mgO σ1 σ) := by
  refine ofWW 1 (by decide +kernel) rfl hE hnt (Nat.le_of_ble_eq_true rfl) rfl (fun M hT hN K => ?_)
  refine v_aload3 (pc := 0) K dL_width_0 ?_
  refine v_ic0 (pc := 1) K dL_width_1 ?_
  refine v_aload0 (pc := 2) K dL_width_2 ?_
  refine v_iload1 (pc := 3) K dL_width_3 ?_
  refine v_iload2 (pc := 4) K dL_width_4 ?_
  refine w_c2E (pc := 5) K ca_yX3_width ml_RL_39 rfl (t_X3_width _ K.nt (AdrOC K.ad) σ a0 a1 (.error "java/lang/IndexOutOfBoundsException") σ1 h) (Nat.le_of_ble_eq_true rfl) (by decide) (by decide) dL_width_5 (fun H1 locs1 ls ce q hP hS hl hce hcv hcl => ?_)
  refine w_catch (pre := []) (x := ⟨0, 10, 13, 20⟩) (suf := [⟨0, 10, 17, 13⟩]) K hN (hT.trans rfl) (fun z hz => nomatch hz) (by decide) (by decide) kl_20 (by decide +kernel) hP hS hl hce hcv hcl ?_
  have K := w_up K
  refine v_astore4 (pc := 13) K dL_width_13 rfl (Nat.le_of_ble_eq_true rfl) ?_
  refine v_ic1 (pc := 15) K dL_width_15 ?_
  exact v_wret (pc := 16) K dL_width_16 rfl (by decide) (by decide)
set_option maxRecDepth 100000 in
theorem tw_width_e2 (l : Launch) (hnt : l.stackTraces = false) {E : Ev} {base : Nat} (hE : Adr YO E base) (σ : St) (a0 : Int32) (a1 : Int32)  (σ1 : St) (h : c_X3_width σ a0 a1 = some (.error "java/lang/IllegalArgumentException", σ1)) : WCtr l yL_width cL_width 5 [(0, 10, 13, 20), (0, 10, 17, 13)] 8 143 E base [.ref (E.2.2 0), .int a0, .int a1, .ref (E.2.2 28)] σ 2 (mgO σ1 σ) := by
  refine ofWW 1 (by decide +kernel) rfl hE hnt (Nat.le_of_ble_eq_true rfl) rfl (fun M hT hN K => ?_)
  refine v_aload3 (pc := 0) K dL_width_0 ?_
  refine v_ic0 (pc := 1) K dL_width_1 ?_
  refine v_aload0 (pc := 2) K dL_width_2 ?_
  refine v_iload1 (pc := 3) K dL_width_3 ?_
  refine v_iload2 (pc := 4) K dL_width_4 ?_
  refine w_c2E (pc := 5) K ca_yX3_width ml_RL_39 rfl (t_X3_width _ K.nt (AdrOC K.ad) σ a0 a1 (.error "java/lang/IllegalArgumentException") σ1 h) (Nat.le_of_ble_eq_true rfl) (by decide) (by decide) dL_width_5 (fun H1 locs1 ls ce q hP hS hl hce hcv hcl => ?_)
  refine w_catch (pre := [⟨0, 10, 13, 20⟩]) (x := ⟨0, 10, 17, 13⟩) (suf := []) K hN (hT.trans rfl) (fun z hz => by rw [List.mem_singleton.mp hz]; exact ⟨by decide, "java/lang/IndexOutOfBoundsException", kl_20, by decide +kernel⟩) (by decide) (by decide) kl_13 (by decide +kernel) hP hS hl hce hcv hcl ?_
  have K := w_up K
  refine v_astore4 (pc := 17) K dL_width_17 rfl (Nat.le_of_ble_eq_true rfl) ?_
  refine v_ic2 (pc := 19) K dL_width_19 ?_
  exact v_wret (pc := 20) K dL_width_20 rfl (by decide) (by decide)
set_option maxRecDepth 100000 in
theorem tw_slice_ok (l : Launch) (hnt : l.stackTraces = false) {E : Ev} {base : Nat} (hE : Adr YO E base) (σ : St) (a0 : Int32) (a1 : Int32) (a2 : Int32) (v : Int64) (σ1 : St) (h : c_X3_slice σ a0 a1 a2 = some (.ok v, σ1)) : WCtr l yL_slice cL_slice 6 [(0, 11, 14, 20)] 8 146 E base [.ref (E.2.2 0), .int a0, .int a1, .int a2, .ref (E.2.2 28)] σ 0 (sL (mgO σ1 σ) 28 0 v) := by
  refine ofWW 1 (by decide +kernel) rfl hE hnt (Nat.le_of_ble_eq_true rfl) rfl (fun M hT hN K => ?_)
  refine v_aload4 (pc := 0) K dL_slice_0 ?_
  refine v_ic0 (pc := 2) K dL_slice_2 ?_
  refine v_aload0 (pc := 3) K dL_slice_3 ?_
  refine v_iload1 (pc := 4) K dL_slice_4 ?_
  refine v_iload2 (pc := 5) K dL_slice_5 ?_
  refine v_iload3 (pc := 6) K dL_slice_6 ?_
  refine w_c3L (pc := 7) K ca_yX3_slice ml_RL_42 rfl (t_X3_slice _ K.nt (AdrOC K.ad) σ a0 a1 a2 (.ok v) σ1 h) (Nat.le_of_ble_eq_true rfl) (by decide) (by decide) dL_slice_7 ?_
  refine v_lastore (pc := 10) (i := 28) (n := 1) K dL_slice_10 (Nat.le_of_ble_eq_true rfl) rfl ix01 ?_
  refine v_goto (pc := 11) (tgt := 18) K dL_slice_11 (by decide) ?_
  refine v_ic0 (pc := 18) K dL_slice_18 ?_
  exact v_wret (pc := 19) K dL_slice_19 rfl (by decide) (by decide)
set_option maxRecDepth 100000 in
theorem tw_slice_e1 (l : Launch) (hnt : l.stackTraces = false) {E : Ev} {base : Nat} (hE : Adr YO E base) (σ : St) (a0 : Int32) (a1 : Int32) (a2 : Int32)  (σ1 : St) (h : c_X3_slice σ a0 a1 a2 = some (.error "java/lang/IndexOutOfBoundsException", σ1)) : WCtr l yL_slice cL_slice 6 [(0, 11, 14, 20)] 8 146 E base [.ref (E.2.2 0), .int a0, .int a1, .int a2, .ref (E.2.2 28)] σ 1 (mgO σ1 σ) := by
  refine ofWW 1 (by decide +kernel) rfl hE hnt (Nat.le_of_ble_eq_true rfl) rfl (fun M hT hN K => ?_)
  refine v_aload4 (pc := 0) K dL_slice_0 ?_
  refine v_ic0 (pc := 2) K dL_slice_2 ?_
  refine v_aload0 (pc := 3) K dL_slice_3 ?_
  refine v_iload1 (pc := 4) K dL_slice_4 ?_
  refine v_iload2 (pc := 5) K dL_slice_5 ?_
  refine v_iload3 (pc := 6) K dL_slice_6 ?_
  refine w_c3E (pc := 7) K ca_yX3_slice ml_RL_42 rfl (t_X3_slice _ K.nt (AdrOC K.ad) σ a0 a1 a2 (.error "java/lang/IndexOutOfBoundsException") σ1 h) (Nat.le_of_ble_eq_true rfl) (by decide) (by decide) dL_slice_7 (fun H1 locs1 ls ce q hP hS hl hce hcv hcl => ?_)
  refine w_catch (pre := []) (x := ⟨0, 11, 14, 20⟩) (suf := []) K hN (hT.trans rfl) (fun z hz => nomatch hz) (by decide) (by decide) kl_20 (by decide +kernel) hP hS hl hce hcv hcl ?_
  have K := w_up K
  refine v_astore5 (pc := 14) K dL_slice_14 rfl (Nat.le_of_ble_eq_true rfl) ?_
  refine v_ic1 (pc := 16) K dL_slice_16 ?_
  exact v_wret (pc := 17) K dL_slice_17 rfl (by decide) (by decide)
set_option maxRecDepth 100000 in
theorem tw_mask_ok (l : Launch) (hnt : l.stackTraces = false) {E : Ev} {base : Nat} (hE : Adr YO E base) (σ : St) (a0 : Int32) (a1 : Int32) (a2 : Int32) (a3 : Int32) (v : Int32) (σ1 : St) (h : c_X3_mask σ a0 a1 a2 a3 = some (.ok v, σ1)) : WCtr l yL_mask cL_mask 7 [(0, 14, 17, 20), (0, 14, 21, 13)] 8 144 E base [.ref (E.2.2 0), .int a0, .int a1, .int a2, .int a3, .ref (E.2.2 28)] σ 0 (sL (mgO σ1 σ) 28 0 v.toInt64) := by
  refine ofWW 1 (by decide +kernel) rfl hE hnt (Nat.le_of_ble_eq_true rfl) rfl (fun M hT hN K => ?_)
  refine v_aload5 (pc := 0) K dL_mask_0 ?_
  refine v_ic0 (pc := 2) K dL_mask_2 ?_
  refine v_aload0 (pc := 3) K dL_mask_3 ?_
  refine v_iload1 (pc := 4) K dL_mask_4 ?_
  refine v_iload2 (pc := 5) K dL_mask_5 ?_
  refine v_iload3 (pc := 6) K dL_mask_6 ?_
  refine v_iload4 (pc := 7) K dL_mask_7 ?_
  refine w_c4I (pc := 9) K ca_yX3_mask ml_RL_46 rfl (t_X3_mask _ K.nt (AdrOC K.ad) σ a0 a1 a2 a3 (.ok v) σ1 h) (Nat.le_of_ble_eq_true rfl) (by decide) (by decide) dL_mask_9 ?_
  refine v_i2l (pc := 12) K dL_mask_12 ?_
  refine v_lastore (pc := 13) (i := 28) (n := 1) K dL_mask_13 (Nat.le_of_ble_eq_true rfl) rfl ix01 ?_
  refine v_goto (pc := 14) (tgt := 25) K dL_mask_14 (by decide) ?_
  refine v_ic0 (pc := 25) K dL_mask_25 ?_
  exact v_wret (pc := 26) K dL_mask_26 rfl (by decide) (by decide)
set_option maxRecDepth 100000 in
theorem tw_mask_e1 (l : Launch) (hnt : l.stackTraces = false) {E : Ev} {base : Nat} (hE : Adr YO E base) (σ : St) (a0 : Int32) (a1 : Int32) (a2 : Int32) (a3 : Int32)  (σ1 : St) (h : c_X3_mask σ a0 a1 a2 a3 = some (.error "java/lang/IndexOutOfBoundsException", σ1)) : WCtr l yL_mask cL_mask 7 [(0, 14, 17, 20), (0, 14, 21, 13)] 8 144 E base [.ref (E.2.2 0), .int a0, .int a1, .int a2, .int a3, .ref (E.2.2 28)] σ 1 (mgO σ1 σ) := by
  refine ofWW 1 (by decide +kernel) rfl hE hnt (Nat.le_of_ble_eq_true rfl) rfl (fun M hT hN K => ?_)
  refine v_aload5 (pc := 0) K dL_mask_0 ?_
  refine v_ic0 (pc := 2) K dL_mask_2 ?_
  refine v_aload0 (pc := 3) K dL_mask_3 ?_
  refine v_iload1 (pc := 4) K dL_mask_4 ?_
  refine v_iload2 (pc := 5) K dL_mask_5 ?_
  refine v_iload3 (pc := 6) K dL_mask_6 ?_
  refine v_iload4 (pc := 7) K dL_mask_7 ?_
  refine w_c4E (pc := 9) K ca_yX3_mask ml_RL_46 rfl (t_X3_mask _ K.nt (AdrOC K.ad) σ a0 a1 a2 a3 (.error "java/lang/IndexOutOfBoundsException") σ1 h) (Nat.le_of_ble_eq_true rfl) (by decide) (by decide) dL_mask_9 (fun H1 locs1 ls ce q hP hS hl hce hcv hcl => ?_)
  refine w_catch (pre := []) (x := ⟨0, 14, 17, 20⟩) (suf := [⟨0, 14, 21, 13⟩]) K hN (hT.trans rfl) (fun z hz => nomatch hz) (by decide) (by decide) kl_20 (by decide +kernel) hP hS hl hce hcv hcl ?_
  have K := w_up K
  refine v_astore6 (pc := 17) K dL_mask_17 rfl (Nat.le_of_ble_eq_true rfl) ?_
  refine v_ic1 (pc := 19) K dL_mask_19 ?_
  exact v_wret (pc := 20) K dL_mask_20 rfl (by decide) (by decide)
set_option maxRecDepth 100000 in
theorem tw_mask_e2 (l : Launch) (hnt : l.stackTraces = false) {E : Ev} {base : Nat} (hE : Adr YO E base) (σ : St) (a0 : Int32) (a1 : Int32) (a2 : Int32) (a3 : Int32)  (σ1 : St) (h : c_X3_mask σ a0 a1 a2 a3 = some (.error "java/lang/IllegalArgumentException", σ1)) : WCtr l yL_mask cL_mask 7 [(0, 14, 17, 20), (0, 14, 21, 13)] 8 144 E base [.ref (E.2.2 0), .int a0, .int a1, .int a2, .int a3, .ref (E.2.2 28)] σ 2 (mgO σ1 σ) := by
  refine ofWW 1 (by decide +kernel) rfl hE hnt (Nat.le_of_ble_eq_true rfl) rfl (fun M hT hN K => ?_)
  refine v_aload5 (pc := 0) K dL_mask_0 ?_
  refine v_ic0 (pc := 2) K dL_mask_2 ?_
  refine v_aload0 (pc := 3) K dL_mask_3 ?_
  refine v_iload1 (pc := 4) K dL_mask_4 ?_
  refine v_iload2 (pc := 5) K dL_mask_5 ?_
  refine v_iload3 (pc := 6) K dL_mask_6 ?_
  refine v_iload4 (pc := 7) K dL_mask_7 ?_
  refine w_c4E (pc := 9) K ca_yX3_mask ml_RL_46 rfl (t_X3_mask _ K.nt (AdrOC K.ad) σ a0 a1 a2 a3 (.error "java/lang/IllegalArgumentException") σ1 h) (Nat.le_of_ble_eq_true rfl) (by decide) (by decide) dL_mask_9 (fun H1 locs1 ls ce q hP hS hl hce hcv hcl => ?_)
  refine w_catch (pre := [⟨0, 14, 17, 20⟩]) (x := ⟨0, 14, 21, 13⟩) (suf := []) K hN (hT.trans rfl) (fun z hz => by rw [List.mem_singleton.mp hz]; exact ⟨by decide, "java/lang/IndexOutOfBoundsException", kl_20, by decide +kernel⟩) (by decide) (by decide) kl_13 (by decide +kernel) hP hS hl hce hcv hcl ?_
  have K := w_up K
  refine v_astore6 (pc := 21) K dL_mask_21 rfl (Nat.le_of_ble_eq_true rfl) ?_
  refine v_ic2 (pc := 23) K dL_mask_23 ?_
  exact v_wret (pc := 24) K dL_mask_24 rfl (by decide) (by decide)
set_option maxRecDepth 100000 in
theorem tw_bits_ok (l : Launch) (hnt : l.stackTraces = false) {E : Ev} {base : Nat} (hE : Adr YO E base) (σ : St) (a0 : Int32) (a1 : Int32) (a2 : Int64) (v : Int32) (σ1 : St) (h : c_X3_bits σ a0 a1 a2 = some (.ok v, σ1)) : WCtr l yL_bits cL_bits 7 [(0, 12, 15, 20)] 8 144 E base [.ref (E.2.2 0), .int a0, .int a1, .long a2, .ref (E.2.2 28)] σ 0 (sL (mgO σ1 σ) 28 0 v.toInt64) := by
  refine ofWW 1 (by decide +kernel) rfl hE hnt (Nat.le_of_ble_eq_true rfl) rfl (fun M hT hN K => ?_)
  refine v_aload5 (pc := 0) K dL_bits_0 ?_
  refine v_ic0 (pc := 2) K dL_bits_2 ?_
  refine v_aload0 (pc := 3) K dL_bits_3 ?_
  refine v_iload1 (pc := 4) K dL_bits_4 ?_
  refine v_iload2 (pc := 5) K dL_bits_5 ?_
  refine v_lload3 (pc := 6) K dL_bits_6 ?_
  refine w_c3I (pc := 7) K ca_yX3_bits ml_RL_50 rfl (t_X3_bits _ K.nt (AdrOC K.ad) σ a0 a1 a2 (.ok v) σ1 h) (Nat.le_of_ble_eq_true rfl) (by decide) (by decide) dL_bits_7 ?_
  refine v_i2l (pc := 10) K dL_bits_10 ?_
  refine v_lastore (pc := 11) (i := 28) (n := 1) K dL_bits_11 (Nat.le_of_ble_eq_true rfl) rfl ix01 ?_
  refine v_goto (pc := 12) (tgt := 19) K dL_bits_12 (by decide) ?_
  refine v_ic0 (pc := 19) K dL_bits_19 ?_
  exact v_wret (pc := 20) K dL_bits_20 rfl (by decide) (by decide)
set_option maxRecDepth 100000 in
theorem tw_bits_e1 (l : Launch) (hnt : l.stackTraces = false) {E : Ev} {base : Nat} (hE : Adr YO E base) (σ : St) (a0 : Int32) (a1 : Int32) (a2 : Int64)  (σ1 : St) (h : c_X3_bits σ a0 a1 a2 = some (.error "java/lang/IndexOutOfBoundsException", σ1)) : WCtr l yL_bits cL_bits 7 [(0, 12, 15, 20)] 8 144 E base [.ref (E.2.2 0), .int a0, .int a1, .long a2, .ref (E.2.2 28)] σ 1 (mgO σ1 σ) := by
  refine ofWW 1 (by decide +kernel) rfl hE hnt (Nat.le_of_ble_eq_true rfl) rfl (fun M hT hN K => ?_)
  refine v_aload5 (pc := 0) K dL_bits_0 ?_
  refine v_ic0 (pc := 2) K dL_bits_2 ?_
  refine v_aload0 (pc := 3) K dL_bits_3 ?_
  refine v_iload1 (pc := 4) K dL_bits_4 ?_
  refine v_iload2 (pc := 5) K dL_bits_5 ?_
  refine v_lload3 (pc := 6) K dL_bits_6 ?_
  refine w_c3E (pc := 7) K ca_yX3_bits ml_RL_50 rfl (t_X3_bits _ K.nt (AdrOC K.ad) σ a0 a1 a2 (.error "java/lang/IndexOutOfBoundsException") σ1 h) (Nat.le_of_ble_eq_true rfl) (by decide) (by decide) dL_bits_7 (fun H1 locs1 ls ce q hP hS hl hce hcv hcl => ?_)
  refine w_catch (pre := []) (x := ⟨0, 12, 15, 20⟩) (suf := []) K hN (hT.trans rfl) (fun z hz => nomatch hz) (by decide) (by decide) kl_20 (by decide +kernel) hP hS hl hce hcv hcl ?_
  have K := w_up K
  refine v_astore6 (pc := 15) K dL_bits_15 rfl (Nat.le_of_ble_eq_true rfl) ?_
  refine v_ic1 (pc := 17) K dL_bits_17 ?_
  exact v_wret (pc := 18) K dL_bits_18 rfl (by decide) (by decide)
set_option maxRecDepth 100000 in
theorem tw_join_ok (l : Launch) (hnt : l.stackTraces = false) {E : Ev} {base : Nat} (hE : Adr YO E base) (σ : St) (a0 : Int32) (a1 : Int32) (a2 : Int32) (a3 : Int32) (v : Int32) (σ1 : St) (h : c_X3_join σ a0 a1 a2 a3 = some (.ok v, σ1)) : WCtr l yL_join cL_join 7 [(0, 14, 17, 20), (0, 14, 21, 13)] 8 145 E base [.ref (E.2.2 0), .int a0, .int a1, .int a2, .int a3, .ref (E.2.2 28)] σ 0 (sL (mgO σ1 σ) 28 0 v.toInt64) := by
  refine ofWW 1 (by decide +kernel) rfl hE hnt (Nat.le_of_ble_eq_true rfl) rfl (fun M hT hN K => ?_)
  refine v_aload5 (pc := 0) K dL_join_0 ?_
  refine v_ic0 (pc := 2) K dL_join_2 ?_
  refine v_aload0 (pc := 3) K dL_join_3 ?_
  refine v_iload1 (pc := 4) K dL_join_4 ?_
  refine v_iload2 (pc := 5) K dL_join_5 ?_
  refine v_iload3 (pc := 6) K dL_join_6 ?_
  refine v_iload4 (pc := 7) K dL_join_7 ?_
  refine w_c4I (pc := 9) K ca_yX3_join ml_RL_53 rfl (t_X3_join _ K.nt (AdrOC K.ad) σ a0 a1 a2 a3 (.ok v) σ1 h) (Nat.le_of_ble_eq_true rfl) (by decide) (by decide) dL_join_9 ?_
  refine v_i2l (pc := 12) K dL_join_12 ?_
  refine v_lastore (pc := 13) (i := 28) (n := 1) K dL_join_13 (Nat.le_of_ble_eq_true rfl) rfl ix01 ?_
  refine v_goto (pc := 14) (tgt := 25) K dL_join_14 (by decide) ?_
  refine v_ic0 (pc := 25) K dL_join_25 ?_
  exact v_wret (pc := 26) K dL_join_26 rfl (by decide) (by decide)
set_option maxRecDepth 100000 in
theorem tw_join_e1 (l : Launch) (hnt : l.stackTraces = false) {E : Ev} {base : Nat} (hE : Adr YO E base) (σ : St) (a0 : Int32) (a1 : Int32) (a2 : Int32) (a3 : Int32)  (σ1 : St) (h : c_X3_join σ a0 a1 a2 a3 = some (.error "java/lang/IndexOutOfBoundsException", σ1)) : WCtr l yL_join cL_join 7 [(0, 14, 17, 20), (0, 14, 21, 13)] 8 145 E base [.ref (E.2.2 0), .int a0, .int a1, .int a2, .int a3, .ref (E.2.2 28)] σ 1 (mgO σ1 σ) := by
  refine ofWW 1 (by decide +kernel) rfl hE hnt (Nat.le_of_ble_eq_true rfl) rfl (fun M hT hN K => ?_)
  refine v_aload5 (pc := 0) K dL_join_0 ?_
  refine v_ic0 (pc := 2) K dL_join_2 ?_
  refine v_aload0 (pc := 3) K dL_join_3 ?_
  refine v_iload1 (pc := 4) K dL_join_4 ?_
  refine v_iload2 (pc := 5) K dL_join_5 ?_
  refine v_iload3 (pc := 6) K dL_join_6 ?_
  refine v_iload4 (pc := 7) K dL_join_7 ?_
  refine w_c4E (pc := 9) K ca_yX3_join ml_RL_53 rfl (t_X3_join _ K.nt (AdrOC K.ad) σ a0 a1 a2 a3 (.error "java/lang/IndexOutOfBoundsException") σ1 h) (Nat.le_of_ble_eq_true rfl) (by decide) (by decide) dL_join_9 (fun H1 locs1 ls ce q hP hS hl hce hcv hcl => ?_)
  refine w_catch (pre := []) (x := ⟨0, 14, 17, 20⟩) (suf := [⟨0, 14, 21, 13⟩]) K hN (hT.trans rfl) (fun z hz => nomatch hz) (by decide) (by decide) kl_20 (by decide +kernel) hP hS hl hce hcv hcl ?_
  have K := w_up K
  refine v_astore6 (pc := 17) K dL_join_17 rfl (Nat.le_of_ble_eq_true rfl) ?_
  refine v_ic1 (pc := 19) K dL_join_19 ?_
  exact v_wret (pc := 20) K dL_join_20 rfl (by decide) (by decide)
set_option maxRecDepth 100000 in
theorem tw_join_e2 (l : Launch) (hnt : l.stackTraces = false) {E : Ev} {base : Nat} (hE : Adr YO E base) (σ : St) (a0 : Int32) (a1 : Int32) (a2 : Int32) (a3 : Int32)  (σ1 : St) (h : c_X3_join σ a0 a1 a2 a3 = some (.error "java/lang/IllegalArgumentException", σ1)) : WCtr l yL_join cL_join 7 [(0, 14, 17, 20), (0, 14, 21, 13)] 8 145 E base [.ref (E.2.2 0), .int a0, .int a1, .int a2, .int a3, .ref (E.2.2 28)] σ 2 (mgO σ1 σ) := by
  refine ofWW 1 (by decide +kernel) rfl hE hnt (Nat.le_of_ble_eq_true rfl) rfl (fun M hT hN K => ?_)
  refine v_aload5 (pc := 0) K dL_join_0 ?_
  refine v_ic0 (pc := 2) K dL_join_2 ?_
  refine v_aload0 (pc := 3) K dL_join_3 ?_
  refine v_iload1 (pc := 4) K dL_join_4 ?_
  refine v_iload2 (pc := 5) K dL_join_5 ?_
  refine v_iload3 (pc := 6) K dL_join_6 ?_
  refine v_iload4 (pc := 7) K dL_join_7 ?_
  refine w_c4E (pc := 9) K ca_yX3_join ml_RL_53 rfl (t_X3_join _ K.nt (AdrOC K.ad) σ a0 a1 a2 a3 (.error "java/lang/IllegalArgumentException") σ1 h) (Nat.le_of_ble_eq_true rfl) (by decide) (by decide) dL_join_9 (fun H1 locs1 ls ce q hP hS hl hce hcv hcl => ?_)
  refine w_catch (pre := [⟨0, 14, 17, 20⟩]) (x := ⟨0, 14, 21, 13⟩) (suf := []) K hN (hT.trans rfl) (fun z hz => by rw [List.mem_singleton.mp hz]; exact ⟨by decide, "java/lang/IndexOutOfBoundsException", kl_20, by decide +kernel⟩) (by decide) (by decide) kl_13 (by decide +kernel) hP hS hl hce hcv hcl ?_
  have K := w_up K
  refine v_astore6 (pc := 21) K dL_join_21 rfl (Nat.le_of_ble_eq_true rfl) ?_
  refine v_ic2 (pc := 23) K dL_join_23 ?_
  exact v_wret (pc := 24) K dL_join_24 rfl (by decide) (by decide)
set_option maxRecDepth 100000 in
theorem tw_turn_ok (l : Launch) (hnt : l.stackTraces = false) {E : Ev} {base : Nat} (hE : Adr YO E base) (σ : St) (a0 : Int32) (a1 : Int32) (v : Int32) (σ1 : St) (h : c_X3_turn σ a0 a1 = some (.ok v, σ1)) : WCtr l yL_turn cL_turn 5 [(0, 10, 13, 20)] 8 143 E base [.ref (E.2.2 0), .int a0, .int a1, .ref (E.2.2 28)] σ 0 (sL (mgO σ1 σ) 28 0 v.toInt64) := by
  refine ofWW 1 (by decide +kernel) rfl hE hnt (Nat.le_of_ble_eq_true rfl) rfl (fun M hT hN K => ?_)
  refine v_aload3 (pc := 0) K dL_turn_0 ?_
  refine v_ic0 (pc := 1) K dL_turn_1 ?_
  refine v_aload0 (pc := 2) K dL_turn_2 ?_
  refine v_iload1 (pc := 3) K dL_turn_3 ?_
  refine v_iload2 (pc := 4) K dL_turn_4 ?_
  refine w_c2I (pc := 5) K ca_yX3_turn ml_RL_56 rfl (t_X3_turn _ K.nt (AdrOC K.ad) σ a0 a1 (.ok v) σ1 h) (Nat.le_of_ble_eq_true rfl) (by decide) (by decide) dL_turn_5 ?_
  refine v_i2l (pc := 8) K dL_turn_8 ?_
  refine v_lastore (pc := 9) (i := 28) (n := 1) K dL_turn_9 (Nat.le_of_ble_eq_true rfl) rfl ix01 ?_
  refine v_goto (pc := 10) (tgt := 17) K dL_turn_10 (by decide) ?_
  refine v_ic0 (pc := 17) K dL_turn_17 ?_
  exact v_wret (pc := 18) K dL_turn_18 rfl (by decide) (by decide)
set_option maxRecDepth 100000 in
theorem tw_turn_e1 (l : Launch) (hnt : l.stackTraces = false) {E : Ev} {base : Nat} (hE : Adr YO E base) (σ : St) (a0 : Int32) (a1 : Int32)  (σ1 : St) (h : c_X3_turn σ a0 a1 = some (.error "java/lang/IndexOutOfBoundsException", σ1)) : WCtr l yL_turn cL_turn 5 [(0, 10, 13, 20)] 8 143 E base [.ref (E.2.2 0), .int a0, .int a1, .ref (E.2.2 28)] σ 1 (mgO σ1 σ) := by
  refine ofWW 1 (by decide +kernel) rfl hE hnt (Nat.le_of_ble_eq_true rfl) rfl (fun M hT hN K => ?_)
  refine v_aload3 (pc := 0) K dL_turn_0 ?_
  refine v_ic0 (pc := 1) K dL_turn_1 ?_
  refine v_aload0 (pc := 2) K dL_turn_2 ?_
  refine v_iload1 (pc := 3) K dL_turn_3 ?_
  refine v_iload2 (pc := 4) K dL_turn_4 ?_
  refine w_c2E (pc := 5) K ca_yX3_turn ml_RL_56 rfl (t_X3_turn _ K.nt (AdrOC K.ad) σ a0 a1 (.error "java/lang/IndexOutOfBoundsException") σ1 h) (Nat.le_of_ble_eq_true rfl) (by decide) (by decide) dL_turn_5 (fun H1 locs1 ls ce q hP hS hl hce hcv hcl => ?_)
  refine w_catch (pre := []) (x := ⟨0, 10, 13, 20⟩) (suf := []) K hN (hT.trans rfl) (fun z hz => nomatch hz) (by decide) (by decide) kl_20 (by decide +kernel) hP hS hl hce hcv hcl ?_
  have K := w_up K
  refine v_astore4 (pc := 13) K dL_turn_13 rfl (Nat.le_of_ble_eq_true rfl) ?_
  refine v_ic1 (pc := 15) K dL_turn_15 ?_
  exact v_wret (pc := 16) K dL_turn_16 rfl (by decide) (by decide)
set_option maxRecDepth 100000 in
theorem tw_compare_ok (l : Launch) (hnt : l.stackTraces = false) {E : Ev} {base : Nat} (hE : Adr YO E base) (σ : St) (a0 : Int32) (a1 : Int32) (a2 : Int32) (a3 : Int64) (a4 : Int32) (v : Int32) (σ1 : St) (h : c_X3_compare σ a0 a1 a2 a3 a4 = some (.ok v, σ1)) : WCtr l yL_compare cL_compare 9 [(0, 16, 19, 20), (0, 16, 23, 13)] 8 148 E base [.ref (E.2.2 0), .int a0, .int a1, .int a2, .long a3, .int a4, .ref (E.2.2 28)] σ 0 (sL (mgO σ1 σ) 28 0 v.toInt64) := by
  refine ofWW 1 (by decide +kernel) rfl hE hnt (Nat.le_of_ble_eq_true rfl) rfl (fun M hT hN K => ?_)
  refine v_aload7 (pc := 0) K dL_compare_0 ?_
  refine v_ic0 (pc := 2) K dL_compare_2 ?_
  refine v_aload0 (pc := 3) K dL_compare_3 ?_
  refine v_iload1 (pc := 4) K dL_compare_4 ?_
  refine v_iload2 (pc := 5) K dL_compare_5 ?_
  refine v_iload3 (pc := 6) K dL_compare_6 ?_
  refine v_lload4 (pc := 7) K dL_compare_7 ?_
  refine v_iload6 (pc := 9) K dL_compare_9 ?_
  refine w_c5I (pc := 11) K ca_yX3_compare ml_RL_59 rfl (t_X3_compare _ K.nt (AdrOC K.ad) σ a0 a1 a2 a3 a4 (.ok v) σ1 h) (Nat.le_of_ble_eq_true rfl) (by decide) (by decide) dL_compare_11 ?_
  refine v_i2l (pc := 14) K dL_compare_14 ?_
  refine v_lastore (pc := 15) (i := 28) (n := 1) K dL_compare_15 (Nat.le_of_ble_eq_true rfl) rfl ix01 ?_
  refine v_goto (pc := 16) (tgt := 27) K dL_compare_16 (by decide) ?_
  refine v_ic0 (pc := 27) K dL_compare_27 ?_
  exact v_wret (pc := 28) K dL_compare_28 rfl (by decide) (by decide)
set_option maxRecDepth 100000 in
theorem tw_compare_e1 (l : Launch) (hnt : l.stackTraces = false) {E : Ev} {base : Nat} (hE : Adr YO E base) (σ : St) (a0 : Int32) (a1 : Int32) (a2 : Int32) (a3 : Int64) (a4 : Int32)  (σ1 : St) (h : c_X3_compare σ a0 a1 a2 a3 a4 = some (.error "java/lang/IndexOutOfBoundsException", σ1)) : WCtr l yL_compare cL_compare 9 [(0, 16, 19, 20), (0, 16, 23, 13)] 8 148 E base [.ref (E.2.2 0), .int a0, .int a1, .int a2, .long a3, .int a4, .ref (E.2.2 28)] σ 1 (mgO σ1 σ) := by
  refine ofWW 1 (by decide +kernel) rfl hE hnt (Nat.le_of_ble_eq_true rfl) rfl (fun M hT hN K => ?_)
  refine v_aload7 (pc := 0) K dL_compare_0 ?_
  refine v_ic0 (pc := 2) K dL_compare_2 ?_
  refine v_aload0 (pc := 3) K dL_compare_3 ?_
  refine v_iload1 (pc := 4) K dL_compare_4 ?_
  refine v_iload2 (pc := 5) K dL_compare_5 ?_
  refine v_iload3 (pc := 6) K dL_compare_6 ?_
  refine v_lload4 (pc := 7) K dL_compare_7 ?_
  refine v_iload6 (pc := 9) K dL_compare_9 ?_
  refine w_c5E (pc := 11) K ca_yX3_compare ml_RL_59 rfl (t_X3_compare _ K.nt (AdrOC K.ad) σ a0 a1 a2 a3 a4 (.error "java/lang/IndexOutOfBoundsException") σ1 h) (Nat.le_of_ble_eq_true rfl) (by decide) (by decide) dL_compare_11 (fun H1 locs1 ls ce q hP hS hl hce hcv hcl => ?_)
  refine w_catch (pre := []) (x := ⟨0, 16, 19, 20⟩) (suf := [⟨0, 16, 23, 13⟩]) K hN (hT.trans rfl) (fun z hz => nomatch hz) (by decide) (by decide) kl_20 (by decide +kernel) hP hS hl hce hcv hcl ?_
  have K := w_up K
  refine v_astore8 (pc := 19) K dL_compare_19 rfl (Nat.le_of_ble_eq_true rfl) ?_
  refine v_ic1 (pc := 21) K dL_compare_21 ?_
  exact v_wret (pc := 22) K dL_compare_22 rfl (by decide) (by decide)
set_option maxRecDepth 100000 in
theorem tw_compare_e2 (l : Launch) (hnt : l.stackTraces = false) {E : Ev} {base : Nat} (hE : Adr YO E base) (σ : St) (a0 : Int32) (a1 : Int32) (a2 : Int32) (a3 : Int64) (a4 : Int32)  (σ1 : St) (h : c_X3_compare σ a0 a1 a2 a3 a4 = some (.error "java/lang/IllegalArgumentException", σ1)) : WCtr l yL_compare cL_compare 9 [(0, 16, 19, 20), (0, 16, 23, 13)] 8 148 E base [.ref (E.2.2 0), .int a0, .int a1, .int a2, .long a3, .int a4, .ref (E.2.2 28)] σ 2 (mgO σ1 σ) := by
  refine ofWW 1 (by decide +kernel) rfl hE hnt (Nat.le_of_ble_eq_true rfl) rfl (fun M hT hN K => ?_)
  refine v_aload7 (pc := 0) K dL_compare_0 ?_
  refine v_ic0 (pc := 2) K dL_compare_2 ?_
  refine v_aload0 (pc := 3) K dL_compare_3 ?_
  refine v_iload1 (pc := 4) K dL_compare_4 ?_
  refine v_iload2 (pc := 5) K dL_compare_5 ?_
  refine v_iload3 (pc := 6) K dL_compare_6 ?_
  refine v_lload4 (pc := 7) K dL_compare_7 ?_
  refine v_iload6 (pc := 9) K dL_compare_9 ?_
  refine w_c5E (pc := 11) K ca_yX3_compare ml_RL_59 rfl (t_X3_compare _ K.nt (AdrOC K.ad) σ a0 a1 a2 a3 a4 (.error "java/lang/IllegalArgumentException") σ1 h) (Nat.le_of_ble_eq_true rfl) (by decide) (by decide) dL_compare_11 (fun H1 locs1 ls ce q hP hS hl hce hcv hcl => ?_)
  refine w_catch (pre := [⟨0, 16, 19, 20⟩]) (x := ⟨0, 16, 23, 13⟩) (suf := []) K hN (hT.trans rfl) (fun z hz => by rw [List.mem_singleton.mp hz]; exact ⟨by decide, "java/lang/IndexOutOfBoundsException", kl_20, by decide +kernel⟩) (by decide) (by decide) kl_13 (by decide +kernel) hP hS hl hce hcv hcl ?_
  have K := w_up K
  refine v_astore8 (pc := 23) K dL_compare_23 rfl (Nat.le_of_ble_eq_true rfl) ?_
  refine v_ic2 (pc := 25) K dL_compare_25 ?_
  exact v_wret (pc := 26) K dL_compare_26 rfl (by decide) (by decide)
set_option maxRecDepth 100000 in
theorem tw_against_ok (l : Launch) (hnt : l.stackTraces = false) {E : Ev} {base : Nat} (hE : Adr YO E base) (σ : St) (a0 : Int32) (a1 : Int32) (a2 : Int32) (a3 : Int32) (a4 : Int32) (v : Int32) (σ1 : St) (h : c_X3_against σ a0 a1 a2 a3 a4 = some (.ok v, σ1)) : WCtr l yL_against cL_against 8 [(0, 16, 19, 20), (0, 16, 23, 13)] 8 147 E base [.ref (E.2.2 0), .int a0, .int a1, .int a2, .int a3, .int a4, .ref (E.2.2 28)] σ 0 (sL (mgO σ1 σ) 28 0 v.toInt64) := by
  refine ofWW 1 (by decide +kernel) rfl hE hnt (Nat.le_of_ble_eq_true rfl) rfl (fun M hT hN K => ?_)
  refine v_aload6 (pc := 0) K dL_against_0 ?_
  refine v_ic0 (pc := 2) K dL_against_2 ?_
  refine v_aload0 (pc := 3) K dL_against_3 ?_
  refine v_iload1 (pc := 4) K dL_against_4 ?_
  refine v_iload2 (pc := 5) K dL_against_5 ?_
  refine v_iload3 (pc := 6) K dL_against_6 ?_
  refine v_iload4 (pc := 7) K dL_against_7 ?_
  refine v_iload5 (pc := 9) K dL_against_9 ?_
  refine w_c5I (pc := 11) K ca_yX3_against ml_RL_63 rfl (t_X3_against _ K.nt (AdrOC K.ad) σ a0 a1 a2 a3 a4 (.ok v) σ1 h) (Nat.le_of_ble_eq_true rfl) (by decide) (by decide) dL_against_11 ?_
  refine v_i2l (pc := 14) K dL_against_14 ?_
  refine v_lastore (pc := 15) (i := 28) (n := 1) K dL_against_15 (Nat.le_of_ble_eq_true rfl) rfl ix01 ?_
  refine v_goto (pc := 16) (tgt := 27) K dL_against_16 (by decide) ?_
  refine v_ic0 (pc := 27) K dL_against_27 ?_
  exact v_wret (pc := 28) K dL_against_28 rfl (by decide) (by decide)
set_option maxRecDepth 100000 in
theorem tw_against_e1 (l : Launch) (hnt : l.stackTraces = false) {E : Ev} {base : Nat} (hE : Adr YO E base) (σ : St) (a0 : Int32) (a1 : Int32) (a2 : Int32) (a3 : Int32) (a4 : Int32)  (σ1 : St) (h : c_X3_against σ a0 a1 a2 a3 a4 = some (.error "java/lang/IndexOutOfBoundsException", σ1)) : WCtr l yL_against cL_against 8 [(0, 16, 19, 20), (0, 16, 23, 13)] 8 147 E base [.ref (E.2.2 0), .int a0, .int a1, .int a2, .int a3, .int a4, .ref (E.2.2 28)] σ 1 (mgO σ1 σ) := by
  refine ofWW 1 (by decide +kernel) rfl hE hnt (Nat.le_of_ble_eq_true rfl) rfl (fun M hT hN K => ?_)
  refine v_aload6 (pc := 0) K dL_against_0 ?_
  refine v_ic0 (pc := 2) K dL_against_2 ?_
  refine v_aload0 (pc := 3) K dL_against_3 ?_
  refine v_iload1 (pc := 4) K dL_against_4 ?_
  refine v_iload2 (pc := 5) K dL_against_5 ?_
  refine v_iload3 (pc := 6) K dL_against_6 ?_
  refine v_iload4 (pc := 7) K dL_against_7 ?_
  refine v_iload5 (pc := 9) K dL_against_9 ?_
  refine w_c5E (pc := 11) K ca_yX3_against ml_RL_63 rfl (t_X3_against _ K.nt (AdrOC K.ad) σ a0 a1 a2 a3 a4 (.error "java/lang/IndexOutOfBoundsException") σ1 h) (Nat.le_of_ble_eq_true rfl) (by decide) (by decide) dL_against_11 (fun H1 locs1 ls ce q hP hS hl hce hcv hcl => ?_)
  refine w_catch (pre := []) (x := ⟨0, 16, 19, 20⟩) (suf := [⟨0, 16, 23, 13⟩]) K hN (hT.trans rfl) (fun z hz => nomatch hz) (by decide) (by decide) kl_20 (by decide +kernel) hP hS hl hce hcv hcl ?_
  have K := w_up K
  refine v_astore7 (pc := 19) K dL_against_19 rfl (Nat.le_of_ble_eq_true rfl) ?_
  refine v_ic1 (pc := 21) K dL_against_21 ?_
  exact v_wret (pc := 22) K dL_against_22 rfl (by decide) (by decide)
set_option maxRecDepth 100000 in
theorem tw_against_e2 (l : Launch) (hnt : l.stackTraces = false) {E : Ev} {base : Nat} (hE : Adr YO E base) (σ : St) (a0 : Int32) (a1 : Int32) (a2 : Int32) (a3 : Int32) (a4 : Int32)  (σ1 : St) (h : c_X3_against σ a0 a1 a2 a3 a4 = some (.error "java/lang/IllegalArgumentException", σ1)) : WCtr l yL_against cL_against 8 [(0, 16, 19, 20), (0, 16, 23, 13)] 8 147 E base [.ref (E.2.2 0), .int a0, .int a1, .int a2, .int a3, .int a4, .ref (E.2.2 28)] σ 2 (mgO σ1 σ) := by
  refine ofWW 1 (by decide +kernel) rfl hE hnt (Nat.le_of_ble_eq_true rfl) rfl (fun M hT hN K => ?_)
  refine v_aload6 (pc := 0) K dL_against_0 ?_
  refine v_ic0 (pc := 2) K dL_against_2 ?_
  refine v_aload0 (pc := 3) K dL_against_3 ?_
  refine v_iload1 (pc := 4) K dL_against_4 ?_
  refine v_iload2 (pc := 5) K dL_against_5 ?_
  refine v_iload3 (pc := 6) K dL_against_6 ?_
  refine v_iload4 (pc := 7) K dL_against_7 ?_
  refine v_iload5 (pc := 9) K dL_against_9 ?_
  refine w_c5E (pc := 11) K ca_yX3_against ml_RL_63 rfl (t_X3_against _ K.nt (AdrOC K.ad) σ a0 a1 a2 a3 a4 (.error "java/lang/IllegalArgumentException") σ1 h) (Nat.le_of_ble_eq_true rfl) (by decide) (by decide) dL_against_11 (fun H1 locs1 ls ce q hP hS hl hce hcv hcl => ?_)
  refine w_catch (pre := [⟨0, 16, 19, 20⟩]) (x := ⟨0, 16, 23, 13⟩) (suf := []) K hN (hT.trans rfl) (fun z hz => by rw [List.mem_singleton.mp hz]; exact ⟨by decide, "java/lang/IndexOutOfBoundsException", kl_20, by decide +kernel⟩) (by decide) (by decide) kl_13 (by decide +kernel) hP hS hl hce hcv hcl ?_
  have K := w_up K
  refine v_astore7 (pc := 23) K dL_against_23 rfl (Nat.le_of_ble_eq_true rfl) ?_
  refine v_ic2 (pc := 25) K dL_against_25 ?_
  exact v_wret (pc := 26) K dL_against_26 rfl (by decide) (by decide)
set_option maxRecDepth 100000 in
theorem tw_empty_ok (l : Launch) (hnt : l.stackTraces = false) {E : Ev} {base : Nat} (hE : Adr YO E base) (σ : St) (a0 : Int32) (a1 : Int32) (a2 : Int32) (v : Int32) (σ1 : St) (h : c_X3_empty σ a0 a1 a2 = some (.ok v, σ1)) : WCtr l yL_empty cL_empty 6 [(0, 12, 15, 20)] 8 145 E base [.ref (E.2.2 0), .int a0, .int a1, .int a2, .ref (E.2.2 28)] σ 0 (sL (mgO σ1 σ) 28 0 v.toInt64) := by
  refine ofWW 1 (by decide +kernel) rfl hE hnt (Nat.le_of_ble_eq_true rfl) rfl (fun M hT hN K => ?_)
  refine v_aload4 (pc := 0) K dL_empty_0 ?_
  refine v_ic0 (pc := 2) K dL_empty_2 ?_
  refine v_aload0 (pc := 3) K dL_empty_3 ?_
  refine v_iload1 (pc := 4) K dL_empty_4 ?_
  refine v_iload2 (pc := 5) K dL_empty_5 ?_
  refine v_iload3 (pc := 6) K dL_empty_6 ?_
  refine w_c3I (pc := 7) K ca_yX3_empty ml_RL_67 rfl (t_X3_empty _ K.nt (AdrOC K.ad) σ a0 a1 a2 (.ok v) σ1 h) (Nat.le_of_ble_eq_true rfl) (by decide) (by decide) dL_empty_7 ?_
  refine v_i2l (pc := 10) K dL_empty_10 ?_
  refine v_lastore (pc := 11) (i := 28) (n := 1) K dL_empty_11 (Nat.le_of_ble_eq_true rfl) rfl ix01 ?_
  refine v_goto (pc := 12) (tgt := 19) K dL_empty_12 (by decide) ?_
  refine v_ic0 (pc := 19) K dL_empty_19 ?_
  exact v_wret (pc := 20) K dL_empty_20 rfl (by decide) (by decide)
set_option maxRecDepth 100000 in
theorem tw_empty_e1 (l : Launch) (hnt : l.stackTraces = false) {E : Ev} {base : Nat} (hE : Adr YO E base) (σ : St) (a0 : Int32) (a1 : Int32) (a2 : Int32)  (σ1 : St) (h : c_X3_empty σ a0 a1 a2 = some (.error "java/lang/IndexOutOfBoundsException", σ1)) : WCtr l yL_empty cL_empty 6 [(0, 12, 15, 20)] 8 145 E base [.ref (E.2.2 0), .int a0, .int a1, .int a2, .ref (E.2.2 28)] σ 1 (mgO σ1 σ) := by
  refine ofWW 1 (by decide +kernel) rfl hE hnt (Nat.le_of_ble_eq_true rfl) rfl (fun M hT hN K => ?_)
  refine v_aload4 (pc := 0) K dL_empty_0 ?_
  refine v_ic0 (pc := 2) K dL_empty_2 ?_
  refine v_aload0 (pc := 3) K dL_empty_3 ?_
  refine v_iload1 (pc := 4) K dL_empty_4 ?_
  refine v_iload2 (pc := 5) K dL_empty_5 ?_
  refine v_iload3 (pc := 6) K dL_empty_6 ?_
  refine w_c3E (pc := 7) K ca_yX3_empty ml_RL_67 rfl (t_X3_empty _ K.nt (AdrOC K.ad) σ a0 a1 a2 (.error "java/lang/IndexOutOfBoundsException") σ1 h) (Nat.le_of_ble_eq_true rfl) (by decide) (by decide) dL_empty_7 (fun H1 locs1 ls ce q hP hS hl hce hcv hcl => ?_)
  refine w_catch (pre := []) (x := ⟨0, 12, 15, 20⟩) (suf := []) K hN (hT.trans rfl) (fun z hz => nomatch hz) (by decide) (by decide) kl_20 (by decide +kernel) hP hS hl hce hcv hcl ?_
  have K := w_up K
  refine v_astore5 (pc := 15) K dL_empty_15 rfl (Nat.le_of_ble_eq_true rfl) ?_
  refine v_ic1 (pc := 17) K dL_empty_17 ?_
  exact v_wret (pc := 18) K dL_empty_18 rfl (by decide) (by decide)
set_option maxRecDepth 100000 in
theorem tw_top_ok (l : Launch) (hnt : l.stackTraces = false) {E : Ev} {base : Nat} (hE : Adr YO E base) (σ : St) (a0 : Int32) (a1 : Int32) (a2 : Int32) (a3 : Int32) (v : Int32) (σ1 : St) (h : c_X3_top σ a0 a1 a2 a3 = some (.ok v, σ1)) : WCtr l yL_top cL_top 7 [(0, 14, 17, 20), (0, 14, 21, 13)] 8 146 E base [.ref (E.2.2 0), .int a0, .int a1, .int a2, .int a3, .ref (E.2.2 28)] σ 0 (sL (mgO σ1 σ) 28 0 v.toInt64) := by
  refine ofWW 1 (by decide +kernel) rfl hE hnt (Nat.le_of_ble_eq_true rfl) rfl (fun M hT hN K => ?_)
  refine v_aload5 (pc := 0) K dL_top_0 ?_
  refine v_ic0 (pc := 2) K dL_top_2 ?_
  refine v_aload0 (pc := 3) K dL_top_3 ?_
  refine v_iload1 (pc := 4) K dL_top_4 ?_
  refine v_iload2 (pc := 5) K dL_top_5 ?_
  refine v_iload3 (pc := 6) K dL_top_6 ?_
  refine v_iload4 (pc := 7) K dL_top_7 ?_
  refine w_c4I (pc := 9) K ca_yX3_top ml_RL_71 rfl (t_X3_top _ K.nt (AdrOC K.ad) σ a0 a1 a2 a3 (.ok v) σ1 h) (Nat.le_of_ble_eq_true rfl) (by decide) (by decide) dL_top_9 ?_
  refine v_i2l (pc := 12) K dL_top_12 ?_
  refine v_lastore (pc := 13) (i := 28) (n := 1) K dL_top_13 (Nat.le_of_ble_eq_true rfl) rfl ix01 ?_
  refine v_goto (pc := 14) (tgt := 25) K dL_top_14 (by decide) ?_
  refine v_ic0 (pc := 25) K dL_top_25 ?_
  exact v_wret (pc := 26) K dL_top_26 rfl (by decide) (by decide)
set_option maxRecDepth 100000 in
theorem tw_top_e1 (l : Launch) (hnt : l.stackTraces = false) {E : Ev} {base : Nat} (hE : Adr YO E base) (σ : St) (a0 : Int32) (a1 : Int32) (a2 : Int32) (a3 : Int32)  (σ1 : St) (h : c_X3_top σ a0 a1 a2 a3 = some (.error "java/lang/IndexOutOfBoundsException", σ1)) : WCtr l yL_top cL_top 7 [(0, 14, 17, 20), (0, 14, 21, 13)] 8 146 E base [.ref (E.2.2 0), .int a0, .int a1, .int a2, .int a3, .ref (E.2.2 28)] σ 1 (mgO σ1 σ) := by
  refine ofWW 1 (by decide +kernel) rfl hE hnt (Nat.le_of_ble_eq_true rfl) rfl (fun M hT hN K => ?_)
  refine v_aload5 (pc := 0) K dL_top_0 ?_
  refine v_ic0 (pc := 2) K dL_top_2 ?_
  refine v_aload0 (pc := 3) K dL_top_3 ?_
  refine v_iload1 (pc := 4) K dL_top_4 ?_
  refine v_iload2 (pc := 5) K dL_top_5 ?_
  refine v_iload3 (pc := 6) K dL_top_6 ?_
  refine v_iload4 (pc := 7) K dL_top_7 ?_
  refine w_c4E (pc := 9) K ca_yX3_top ml_RL_71 rfl (t_X3_top _ K.nt (AdrOC K.ad) σ a0 a1 a2 a3 (.error "java/lang/IndexOutOfBoundsException") σ1 h) (Nat.le_of_ble_eq_true rfl) (by decide) (by decide) dL_top_9 (fun H1 locs1 ls ce q hP hS hl hce hcv hcl => ?_)
  refine w_catch (pre := []) (x := ⟨0, 14, 17, 20⟩) (suf := [⟨0, 14, 21, 13⟩]) K hN (hT.trans rfl) (fun z hz => nomatch hz) (by decide) (by decide) kl_20 (by decide +kernel) hP hS hl hce hcv hcl ?_
  have K := w_up K
  refine v_astore6 (pc := 17) K dL_top_17 rfl (Nat.le_of_ble_eq_true rfl) ?_
  refine v_ic1 (pc := 19) K dL_top_19 ?_
  exact v_wret (pc := 20) K dL_top_20 rfl (by decide) (by decide)
set_option maxRecDepth 100000 in
theorem tw_top_e2 (l : Launch) (hnt : l.stackTraces = false) {E : Ev} {base : Nat} (hE : Adr YO E base) (σ : St) (a0 : Int32) (a1 : Int32) (a2 : Int32) (a3 : Int32)  (σ1 : St) (h : c_X3_top σ a0 a1 a2 a3 = some (.error "java/lang/IllegalArgumentException", σ1)) : WCtr l yL_top cL_top 7 [(0, 14, 17, 20), (0, 14, 21, 13)] 8 146 E base [.ref (E.2.2 0), .int a0, .int a1, .int a2, .int a3, .ref (E.2.2 28)] σ 2 (mgO σ1 σ) := by
  refine ofWW 1 (by decide +kernel) rfl hE hnt (Nat.le_of_ble_eq_true rfl) rfl (fun M hT hN K => ?_)
  refine v_aload5 (pc := 0) K dL_top_0 ?_
  refine v_ic0 (pc := 2) K dL_top_2 ?_
  refine v_aload0 (pc := 3) K dL_top_3 ?_
  refine v_iload1 (pc := 4) K dL_top_4 ?_
  refine v_iload2 (pc := 5) K dL_top_5 ?_
  refine v_iload3 (pc := 6) K dL_top_6 ?_
  refine v_iload4 (pc := 7) K dL_top_7 ?_
  refine w_c4E (pc := 9) K ca_yX3_top ml_RL_71 rfl (t_X3_top _ K.nt (AdrOC K.ad) σ a0 a1 a2 a3 (.error "java/lang/IllegalArgumentException") σ1 h) (Nat.le_of_ble_eq_true rfl) (by decide) (by decide) dL_top_9 (fun H1 locs1 ls ce q hP hS hl hce hcv hcl => ?_)
  refine w_catch (pre := [⟨0, 14, 17, 20⟩]) (x := ⟨0, 14, 21, 13⟩) (suf := []) K hN (hT.trans rfl) (fun z hz => by rw [List.mem_singleton.mp hz]; exact ⟨by decide, "java/lang/IndexOutOfBoundsException", kl_20, by decide +kernel⟩) (by decide) (by decide) kl_13 (by decide +kernel) hP hS hl hce hcv hcl ?_
  have K := w_up K
  refine v_astore6 (pc := 21) K dL_top_21 rfl (Nat.le_of_ble_eq_true rfl) ?_
  refine v_ic2 (pc := 23) K dL_top_23 ?_
  exact v_wret (pc := 24) K dL_top_24 rfl (by decide) (by decide)
set_option maxRecDepth 100000 in
theorem tw_field_ok (l : Launch) (hnt : l.stackTraces = false) {E : Ev} {base : Nat} (hE : Adr YO E base) (σ : St) (a0 : Int32) (a1 : Int32) (a2 : Int32) (a3 : Int32) (a4 : Int32) (a5 : Int32) (v : Int32) (σ1 : St) (h : c_X3_field σ a0 a1 a2 a3 a4 a5 = some (.ok v, σ1)) : WCtr l yL_field cL_field 9 [(0, 18, 21, 20), (0, 18, 25, 13)] 8 150 E base [.ref (E.2.2 0), .int a0, .int a1, .int a2, .int a3, .int a4, .int a5, .ref (E.2.2 28)] σ 0 (sL (mgO σ1 σ) 28 0 v.toInt64) := by
  refine ofWW 1 (by decide +kernel) rfl hE hnt (Nat.le_of_ble_eq_true rfl) rfl (fun M hT hN K => ?_)
  refine v_aload7 (pc := 0) K dL_field_0 ?_
  refine v_ic0 (pc := 2) K dL_field_2 ?_
  refine v_aload0 (pc := 3) K dL_field_3 ?_
  refine v_iload1 (pc := 4) K dL_field_4 ?_
  refine v_iload2 (pc := 5) K dL_field_5 ?_
  refine v_iload3 (pc := 6) K dL_field_6 ?_
  refine v_iload4 (pc := 7) K dL_field_7 ?_
  refine v_iload5 (pc := 9) K dL_field_9 ?_
  refine v_iload6 (pc := 11) K dL_field_11 ?_
  refine w_c6I (pc := 13) K ca_yX3_field ml_RL_74 rfl (t_X3_field _ K.nt (AdrOC K.ad) σ a0 a1 a2 a3 a4 a5 (.ok v) σ1 h) (Nat.le_of_ble_eq_true rfl) (by decide) (by decide) dL_field_13 ?_
  refine v_i2l (pc := 16) K dL_field_16 ?_
  refine v_lastore (pc := 17) (i := 28) (n := 1) K dL_field_17 (Nat.le_of_ble_eq_true rfl) rfl ix01 ?_
  refine v_goto (pc := 18) (tgt := 29) K dL_field_18 (by decide) ?_
  refine v_ic0 (pc := 29) K dL_field_29 ?_
  exact v_wret (pc := 30) K dL_field_30 rfl (by decide) (by decide)
set_option maxRecDepth 100000 in
theorem tw_field_e1 (l : Launch) (hnt : l.stackTraces = false) {E : Ev} {base : Nat} (hE : Adr YO E base) (σ : St) (a0 : Int32) (a1 : Int32) (a2 : Int32) (a3 : Int32) (a4 : Int32) (a5 : Int32)  (σ1 : St) (h : c_X3_field σ a0 a1 a2 a3 a4 a5 = some (.error "java/lang/IndexOutOfBoundsException", σ1)) : WCtr l yL_field cL_field 9 [(0, 18, 21, 20), (0, 18, 25, 13)] 8 150 E base [.ref (E.2.2 0), .int a0, .int a1, .int a2, .int a3, .int a4, .int a5, .ref (E.2.2 28)] σ 1 (mgO σ1 σ) := by
  refine ofWW 1 (by decide +kernel) rfl hE hnt (Nat.le_of_ble_eq_true rfl) rfl (fun M hT hN K => ?_)
  refine v_aload7 (pc := 0) K dL_field_0 ?_
  refine v_ic0 (pc := 2) K dL_field_2 ?_
  refine v_aload0 (pc := 3) K dL_field_3 ?_
  refine v_iload1 (pc := 4) K dL_field_4 ?_
  refine v_iload2 (pc := 5) K dL_field_5 ?_
  refine v_iload3 (pc := 6) K dL_field_6 ?_
  refine v_iload4 (pc := 7) K dL_field_7 ?_
  refine v_iload5 (pc := 9) K dL_field_9 ?_
  refine v_iload6 (pc := 11) K dL_field_11 ?_
  refine w_c6E (pc := 13) K ca_yX3_field ml_RL_74 rfl (t_X3_field _ K.nt (AdrOC K.ad) σ a0 a1 a2 a3 a4 a5 (.error "java/lang/IndexOutOfBoundsException") σ1 h) (Nat.le_of_ble_eq_true rfl) (by decide) (by decide) dL_field_13 (fun H1 locs1 ls ce q hP hS hl hce hcv hcl => ?_)
  refine w_catch (pre := []) (x := ⟨0, 18, 21, 20⟩) (suf := [⟨0, 18, 25, 13⟩]) K hN (hT.trans rfl) (fun z hz => nomatch hz) (by decide) (by decide) kl_20 (by decide +kernel) hP hS hl hce hcv hcl ?_
  have K := w_up K
  refine v_astore8 (pc := 21) K dL_field_21 rfl (Nat.le_of_ble_eq_true rfl) ?_
  refine v_ic1 (pc := 23) K dL_field_23 ?_
  exact v_wret (pc := 24) K dL_field_24 rfl (by decide) (by decide)
set_option maxRecDepth 100000 in
theorem tw_field_e2 (l : Launch) (hnt : l.stackTraces = false) {E : Ev} {base : Nat} (hE : Adr YO E base) (σ : St) (a0 : Int32) (a1 : Int32) (a2 : Int32) (a3 : Int32) (a4 : Int32) (a5 : Int32)  (σ1 : St) (h : c_X3_field σ a0 a1 a2 a3 a4 a5 = some (.error "java/lang/IllegalArgumentException", σ1)) : WCtr l yL_field cL_field 9 [(0, 18, 21, 20), (0, 18, 25, 13)] 8 150 E base [.ref (E.2.2 0), .int a0, .int a1, .int a2, .int a3, .int a4, .int a5, .ref (E.2.2 28)] σ 2 (mgO σ1 σ) := by
  refine ofWW 1 (by decide +kernel) rfl hE hnt (Nat.le_of_ble_eq_true rfl) rfl (fun M hT hN K => ?_)
  refine v_aload7 (pc := 0) K dL_field_0 ?_
  refine v_ic0 (pc := 2) K dL_field_2 ?_
  refine v_aload0 (pc := 3) K dL_field_3 ?_
  refine v_iload1 (pc := 4) K dL_field_4 ?_
  refine v_iload2 (pc := 5) K dL_field_5 ?_
  refine v_iload3 (pc := 6) K dL_field_6 ?_
  refine v_iload4 (pc := 7) K dL_field_7 ?_
  refine v_iload5 (pc := 9) K dL_field_9 ?_
  refine v_iload6 (pc := 11) K dL_field_11 ?_
  refine w_c6E (pc := 13) K ca_yX3_field ml_RL_74 rfl (t_X3_field _ K.nt (AdrOC K.ad) σ a0 a1 a2 a3 a4 a5 (.error "java/lang/IllegalArgumentException") σ1 h) (Nat.le_of_ble_eq_true rfl) (by decide) (by decide) dL_field_13 (fun H1 locs1 ls ce q hP hS hl hce hcv hcl => ?_)
  refine w_catch (pre := [⟨0, 18, 21, 20⟩]) (x := ⟨0, 18, 25, 13⟩) (suf := []) K hN (hT.trans rfl) (fun z hz => by rw [List.mem_singleton.mp hz]; exact ⟨by decide, "java/lang/IndexOutOfBoundsException", kl_20, by decide +kernel⟩) (by decide) (by decide) kl_13 (by decide +kernel) hP hS hl hce hcv hcl ?_
  have K := w_up K
  refine v_astore8 (pc := 25) K dL_field_25 rfl (Nat.le_of_ble_eq_true rfl) ?_
  refine v_ic2 (pc := 27) K dL_field_27 ?_
  exact v_wret (pc := 28) K dL_field_28 rfl (by decide) (by decide)
set_option maxRecDepth 100000 in
theorem tw_move_ok (l : Launch) (hnt : l.stackTraces = false) {E : Ev} {base : Nat} (hE : Adr YO E base) (σ : St) (a0 : Int32) (a1 : Int32) (a2 : Int32) (v : Int32) (σ1 : St) (h : c_X3_move σ a0 a1 a2 = some (.ok v, σ1)) : WCtr l yL_move cL_move 6 [(0, 12, 15, 20), (0, 12, 19, 13)] 8 144 E base [.ref (E.2.2 0), .int a0, .int a1, .int a2, .ref (E.2.2 28)] σ 0 (sL (mgO σ1 σ) 28 0 v.toInt64) := by
  refine ofWW 1 (by decide +kernel) rfl hE hnt (Nat.le_of_ble_eq_true rfl) rfl (fun M hT hN K => ?_)
  refine v_aload4 (pc := 0) K dL_move_0 ?_
  refine v_ic0 (pc := 2) K dL_move_2 ?_
  refine v_aload0 (pc := 3) K dL_move_3 ?_
  refine v_iload1 (pc := 4) K dL_move_4 ?_
  refine v_iload2 (pc := 5) K dL_move_5 ?_
  refine v_iload3 (pc := 6) K dL_move_6 ?_
  refine w_c3I (pc := 7) K ca_yX3_move ml_RL_78 rfl (t_X3_move _ K.nt (AdrOC K.ad) σ a0 a1 a2 (.ok v) σ1 h) (Nat.le_of_ble_eq_true rfl) (by decide) (by decide) dL_move_7 ?_
  refine v_i2l (pc := 10) K dL_move_10 ?_
  refine v_lastore (pc := 11) (i := 28) (n := 1) K dL_move_11 (Nat.le_of_ble_eq_true rfl) rfl ix01 ?_
  refine v_goto (pc := 12) (tgt := 23) K dL_move_12 (by decide) ?_
  refine v_ic0 (pc := 23) K dL_move_23 ?_
  exact v_wret (pc := 24) K dL_move_24 rfl (by decide) (by decide)
set_option maxRecDepth 100000 in
theorem tw_move_e1 (l : Launch) (hnt : l.stackTraces = false) {E : Ev} {base : Nat} (hE : Adr YO E base) (σ : St) (a0 : Int32) (a1 : Int32) (a2 : Int32)  (σ1 : St) (h : c_X3_move σ a0 a1 a2 = some (.error "java/lang/IndexOutOfBoundsException", σ1)) : WCtr l yL_move cL_move 6 [(0, 12, 15, 20), (0, 12, 19, 13)] 8 144 E base [.ref (E.2.2 0), .int a0, .int a1, .int a2, .ref (E.2.2 28)] σ 1 (mgO σ1 σ) := by
  refine ofWW 1 (by decide +kernel) rfl hE hnt (Nat.le_of_ble_eq_true rfl) rfl (fun M hT hN K => ?_)
  refine v_aload4 (pc := 0) K dL_move_0 ?_
  refine v_ic0 (pc := 2) K dL_move_2 ?_
  refine v_aload0 (pc := 3) K dL_move_3 ?_
  refine v_iload1 (pc := 4) K dL_move_4 ?_
  refine v_iload2 (pc := 5) K dL_move_5 ?_
  refine v_iload3 (pc := 6) K dL_move_6 ?_
  refine w_c3E (pc := 7) K ca_yX3_move ml_RL_78 rfl (t_X3_move _ K.nt (AdrOC K.ad) σ a0 a1 a2 (.error "java/lang/IndexOutOfBoundsException") σ1 h) (Nat.le_of_ble_eq_true rfl) (by decide) (by decide) dL_move_7 (fun H1 locs1 ls ce q hP hS hl hce hcv hcl => ?_)
  refine w_catch (pre := []) (x := ⟨0, 12, 15, 20⟩) (suf := [⟨0, 12, 19, 13⟩]) K hN (hT.trans rfl) (fun z hz => nomatch hz) (by decide) (by decide) kl_20 (by decide +kernel) hP hS hl hce hcv hcl ?_
  have K := w_up K
  refine v_astore5 (pc := 15) K dL_move_15 rfl (Nat.le_of_ble_eq_true rfl) ?_
  refine v_ic1 (pc := 17) K dL_move_17 ?_
  exact v_wret (pc := 18) K dL_move_18 rfl (by decide) (by decide)
set_option maxRecDepth 100000 in
theorem tw_move_e2 (l : Launch) (hnt : l.stackTraces = false) {E : Ev} {base : Nat} (hE : Adr YO E base) (σ : St) (a0 : Int32) (a1 : Int32) (a2 : Int32)  (σ1 : St) (h : c_X3_move σ a0 a1 a2 = some (.error "java/lang/IllegalArgumentException", σ1)) : WCtr l yL_move cL_move 6 [(0, 12, 15, 20), (0, 12, 19, 13)] 8 144 E base [.ref (E.2.2 0), .int a0, .int a1, .int a2, .ref (E.2.2 28)] σ 2 (mgO σ1 σ) := by
  refine ofWW 1 (by decide +kernel) rfl hE hnt (Nat.le_of_ble_eq_true rfl) rfl (fun M hT hN K => ?_)
  refine v_aload4 (pc := 0) K dL_move_0 ?_
  refine v_ic0 (pc := 2) K dL_move_2 ?_
  refine v_aload0 (pc := 3) K dL_move_3 ?_
  refine v_iload1 (pc := 4) K dL_move_4 ?_
  refine v_iload2 (pc := 5) K dL_move_5 ?_
  refine v_iload3 (pc := 6) K dL_move_6 ?_
  refine w_c3E (pc := 7) K ca_yX3_move ml_RL_78 rfl (t_X3_move _ K.nt (AdrOC K.ad) σ a0 a1 a2 (.error "java/lang/IllegalArgumentException") σ1 h) (Nat.le_of_ble_eq_true rfl) (by decide) (by decide) dL_move_7 (fun H1 locs1 ls ce q hP hS hl hce hcv hcl => ?_)
  refine w_catch (pre := [⟨0, 12, 15, 20⟩]) (x := ⟨0, 12, 19, 13⟩) (suf := []) K hN (hT.trans rfl) (fun z hz => by rw [List.mem_singleton.mp hz]; exact ⟨by decide, "java/lang/IndexOutOfBoundsException", kl_20, by decide +kernel⟩) (by decide) (by decide) kl_13 (by decide +kernel) hP hS hl hce hcv hcl ?_
  have K := w_up K
  refine v_astore5 (pc := 19) K dL_move_19 rfl (Nat.le_of_ble_eq_true rfl) ?_
  refine v_ic2 (pc := 21) K dL_move_21 ?_
  exact v_wret (pc := 22) K dL_move_22 rfl (by decide) (by decide)
set_option maxRecDepth 100000 in
theorem tw_firsts_ok (l : Launch) (hnt : l.stackTraces = false) {E : Ev} {base : Nat} (hE : Adr YO E base) (σ : St) (a0 : Int32) (a1 : Int32) (v : Int32) (σ1 : St) (h : c_X3_firsts σ a0 a1 = some (.ok v, σ1)) : WCtr l yL_firsts cL_firsts 5 [(0, 10, 13, 20)] 8 143 E base [.ref (E.2.2 0), .int a0, .int a1, .ref (E.2.2 28)] σ 0 (sL (mgO σ1 σ) 28 0 v.toInt64) := by
  refine ofWW 1 (by decide +kernel) rfl hE hnt (Nat.le_of_ble_eq_true rfl) rfl (fun M hT hN K => ?_)
  refine v_aload3 (pc := 0) K dL_firsts_0 ?_
  refine v_ic0 (pc := 1) K dL_firsts_1 ?_
  refine v_aload0 (pc := 2) K dL_firsts_2 ?_
  refine v_iload1 (pc := 3) K dL_firsts_3 ?_
  refine v_iload2 (pc := 4) K dL_firsts_4 ?_
  refine w_c2I (pc := 5) K ca_yX3_firsts ml_RL_81 rfl (t_X3_firsts _ K.nt (AdrOC K.ad) σ a0 a1 (.ok v) σ1 h) (Nat.le_of_ble_eq_true rfl) (by decide) (by decide) dL_firsts_5 ?_
  refine v_i2l (pc := 8) K dL_firsts_8 ?_
  refine v_lastore (pc := 9) (i := 28) (n := 1) K dL_firsts_9 (Nat.le_of_ble_eq_true rfl) rfl ix01 ?_
  refine v_goto (pc := 10) (tgt := 17) K dL_firsts_10 (by decide) ?_
  refine v_ic0 (pc := 17) K dL_firsts_17 ?_
  exact v_wret (pc := 18) K dL_firsts_18 rfl (by decide) (by decide)
set_option maxRecDepth 100000 in
theorem tw_firsts_e1 (l : Launch) (hnt : l.stackTraces = false) {E : Ev} {base : Nat} (hE : Adr YO E base) (σ : St) (a0 : Int32) (a1 : Int32)  (σ1 : St) (h : c_X3_firsts σ a0 a1 = some (.error "java/lang/IndexOutOfBoundsException", σ1)) : WCtr l yL_firsts cL_firsts 5 [(0, 10, 13, 20)] 8 143 E base [.ref (E.2.2 0), .int a0, .int a1, .ref (E.2.2 28)] σ 1 (mgO σ1 σ) := by
  refine ofWW 1 (by decide +kernel) rfl hE hnt (Nat.le_of_ble_eq_true rfl) rfl (fun M hT hN K => ?_)
  refine v_aload3 (pc := 0) K dL_firsts_0 ?_
  refine v_ic0 (pc := 1) K dL_firsts_1 ?_
  refine v_aload0 (pc := 2) K dL_firsts_2 ?_
  refine v_iload1 (pc := 3) K dL_firsts_3 ?_
  refine v_iload2 (pc := 4) K dL_firsts_4 ?_
  refine w_c2E (pc := 5) K ca_yX3_firsts ml_RL_81 rfl (t_X3_firsts _ K.nt (AdrOC K.ad) σ a0 a1 (.error "java/lang/IndexOutOfBoundsException") σ1 h) (Nat.le_of_ble_eq_true rfl) (by decide) (by decide) dL_firsts_5 (fun H1 locs1 ls ce q hP hS hl hce hcv hcl => ?_)
  refine w_catch (pre := []) (x := ⟨0, 10, 13, 20⟩) (suf := []) K hN (hT.trans rfl) (fun z hz => nomatch hz) (by decide) (by decide) kl_20 (by decide +kernel) hP hS hl hce hcv hcl ?_
  have K := w_up K
  refine v_astore4 (pc := 13) K dL_firsts_13 rfl (Nat.le_of_ble_eq_true rfl) ?_
  refine v_ic1 (pc := 15) K dL_firsts_15 ?_
  exact v_wret (pc := 16) K dL_firsts_16 rfl (by decide) (by decide)
set_option maxRecDepth 100000 in
theorem tw_runs_ok (l : Launch) (hnt : l.stackTraces = false) {E : Ev} {base : Nat} (hE : Adr YO E base) (σ : St) (a0 : Int32) (a1 : Int32) (v : Int32) (σ1 : St) (h : c_X3_runs σ a0 a1 = some (.ok v, σ1)) : WCtr l yL_runs cL_runs 5 [(0, 10, 13, 20), (0, 10, 17, 13)] 8 147 E base [.ref (E.2.2 0), .int a0, .int a1, .ref (E.2.2 28)] σ 0 (sL (mgO σ1 σ) 28 0 v.toInt64) := by
  refine ofWW 1 (by decide +kernel) rfl hE hnt (Nat.le_of_ble_eq_true rfl) rfl (fun M hT hN K => ?_)
  refine v_aload3 (pc := 0) K dL_runs_0 ?_
  refine v_ic0 (pc := 1) K dL_runs_1 ?_
  refine v_aload0 (pc := 2) K dL_runs_2 ?_
  refine v_iload1 (pc := 3) K dL_runs_3 ?_
  refine v_iload2 (pc := 4) K dL_runs_4 ?_
  refine w_c2I (pc := 5) K ca_yX3_runs ml_RL_84 rfl (t_X3_runs _ K.nt (AdrOC K.ad) σ a0 a1 (.ok v) σ1 h) (Nat.le_of_ble_eq_true rfl) (by decide) (by decide) dL_runs_5 ?_
  refine v_i2l (pc := 8) K dL_runs_8 ?_
  refine v_lastore (pc := 9) (i := 28) (n := 1) K dL_runs_9 (Nat.le_of_ble_eq_true rfl) rfl ix01 ?_
  refine v_goto (pc := 10) (tgt := 21) K dL_runs_10 (by decide) ?_
  refine v_ic0 (pc := 21) K dL_runs_21 ?_
  exact v_wret (pc := 22) K dL_runs_22 rfl (by decide) (by decide)
set_option maxRecDepth 100000 in
theorem tw_runs_e1 (l : Launch) (hnt : l.stackTraces = false) {E : Ev} {base : Nat} (hE : Adr YO E base) (σ : St) (a0 : Int32) (a1 : Int32)  (σ1 : St) (h : c_X3_runs σ a0 a1 = some (.error "java/lang/IndexOutOfBoundsException", σ1)) : WCtr l yL_runs cL_runs 5 [(0, 10, 13, 20), (0, 10, 17, 13)] 8 147 E base [.ref (E.2.2 0), .int a0, .int a1, .ref (E.2.2 28)] σ 1 (mgO σ1 σ) := by
  refine ofWW 1 (by decide +kernel) rfl hE hnt (Nat.le_of_ble_eq_true rfl) rfl (fun M hT hN K => ?_)
  refine v_aload3 (pc := 0) K dL_runs_0 ?_
  refine v_ic0 (pc := 1) K dL_runs_1 ?_
  refine v_aload0 (pc := 2) K dL_runs_2 ?_
  refine v_iload1 (pc := 3) K dL_runs_3 ?_
  refine v_iload2 (pc := 4) K dL_runs_4 ?_
  refine w_c2E (pc := 5) K ca_yX3_runs ml_RL_84 rfl (t_X3_runs _ K.nt (AdrOC K.ad) σ a0 a1 (.error "java/lang/IndexOutOfBoundsException") σ1 h) (Nat.le_of_ble_eq_true rfl) (by decide) (by decide) dL_runs_5 (fun H1 locs1 ls ce q hP hS hl hce hcv hcl => ?_)
  refine w_catch (pre := []) (x := ⟨0, 10, 13, 20⟩) (suf := [⟨0, 10, 17, 13⟩]) K hN (hT.trans rfl) (fun z hz => nomatch hz) (by decide) (by decide) kl_20 (by decide +kernel) hP hS hl hce hcv hcl ?_
  have K := w_up K
  refine v_astore4 (pc := 13) K dL_runs_13 rfl (Nat.le_of_ble_eq_true rfl) ?_
  refine v_ic1 (pc := 15) K dL_runs_15 ?_
  exact v_wret (pc := 16) K dL_runs_16 rfl (by decide) (by decide)
set_option maxRecDepth 100000 in
theorem tw_runs_e2 (l : Launch) (hnt : l.stackTraces = false) {E : Ev} {base : Nat} (hE : Adr YO E base) (σ : St) (a0 : Int32) (a1 : Int32)  (σ1 : St) (h : c_X3_runs σ a0 a1 = some (.error "java/lang/IllegalArgumentException", σ1)) : WCtr l yL_runs cL_runs 5 [(0, 10, 13, 20), (0, 10, 17, 13)] 8 147 E base [.ref (E.2.2 0), .int a0, .int a1, .ref (E.2.2 28)] σ 2 (mgO σ1 σ) := by
  refine ofWW 1 (by decide +kernel) rfl hE hnt (Nat.le_of_ble_eq_true rfl) rfl (fun M hT hN K => ?_)
  refine v_aload3 (pc := 0) K dL_runs_0 ?_
  refine v_ic0 (pc := 1) K dL_runs_1 ?_
  refine v_aload0 (pc := 2) K dL_runs_2 ?_
  refine v_iload1 (pc := 3) K dL_runs_3 ?_
  refine v_iload2 (pc := 4) K dL_runs_4 ?_
  refine w_c2E (pc := 5) K ca_yX3_runs ml_RL_84 rfl (t_X3_runs _ K.nt (AdrOC K.ad) σ a0 a1 (.error "java/lang/IllegalArgumentException") σ1 h) (Nat.le_of_ble_eq_true rfl) (by decide) (by decide) dL_runs_5 (fun H1 locs1 ls ce q hP hS hl hce hcv hcl => ?_)
  refine w_catch (pre := [⟨0, 10, 13, 20⟩]) (x := ⟨0, 10, 17, 13⟩) (suf := []) K hN (hT.trans rfl) (fun z hz => by rw [List.mem_singleton.mp hz]; exact ⟨by decide, "java/lang/IndexOutOfBoundsException", kl_20, by decide +kernel⟩) (by decide) (by decide) kl_13 (by decide +kernel) hP hS hl hce hcv hcl ?_
  have K := w_up K
  refine v_astore4 (pc := 17) K dL_runs_17 rfl (Nat.le_of_ble_eq_true rfl) ?_
  refine v_ic2 (pc := 19) K dL_runs_19 ?_
  exact v_wret (pc := 20) K dL_runs_20 rfl (by decide) (by decide)
set_option maxRecDepth 100000 in
theorem tw_alike_ok (l : Launch) (hnt : l.stackTraces = false) {E : Ev} {base : Nat} (hE : Adr YO E base) (σ : St) (a0 : Int32) (a1 : Int32) (v : Int32) (σ1 : St) (h : c_X3_alike σ a0 a1 = some (.ok v, σ1)) : WCtr l yL_alike cL_alike 5 [(0, 10, 13, 20)] 8 143 E base [.ref (E.2.2 0), .int a0, .int a1, .ref (E.2.2 28)] σ 0 (sL (mgO σ1 σ) 28 0 v.toInt64) := by
  refine ofWW 1 (by decide +kernel) rfl hE hnt (Nat.le_of_ble_eq_true rfl) rfl (fun M hT hN K => ?_)
  refine v_aload3 (pc := 0) K dL_alike_0 ?_
  refine v_ic0 (pc := 1) K dL_alike_1 ?_
  refine v_aload0 (pc := 2) K dL_alike_2 ?_
  refine v_iload1 (pc := 3) K dL_alike_3 ?_
  refine v_iload2 (pc := 4) K dL_alike_4 ?_
  refine w_c2I (pc := 5) K ca_yX3_alike ml_RL_87 rfl (t_X3_alike _ K.nt (AdrOC K.ad) σ a0 a1 (.ok v) σ1 h) (Nat.le_of_ble_eq_true rfl) (by decide) (by decide) dL_alike_5 ?_
  refine v_i2l (pc := 8) K dL_alike_8 ?_
  refine v_lastore (pc := 9) (i := 28) (n := 1) K dL_alike_9 (Nat.le_of_ble_eq_true rfl) rfl ix01 ?_
  refine v_goto (pc := 10) (tgt := 17) K dL_alike_10 (by decide) ?_
  refine v_ic0 (pc := 17) K dL_alike_17 ?_
  exact v_wret (pc := 18) K dL_alike_18 rfl (by decide) (by decide)
set_option maxRecDepth 100000 in
theorem tw_alike_e1 (l : Launch) (hnt : l.stackTraces = false) {E : Ev} {base : Nat} (hE : Adr YO E base) (σ : St) (a0 : Int32) (a1 : Int32)  (σ1 : St) (h : c_X3_alike σ a0 a1 = some (.error "java/lang/IndexOutOfBoundsException", σ1)) : WCtr l yL_alike cL_alike 5 [(0, 10, 13, 20)] 8 143 E base [.ref (E.2.2 0), .int a0, .int a1, .ref (E.2.2 28)] σ 1 (mgO σ1 σ) := by
  refine ofWW 1 (by decide +kernel) rfl hE hnt (Nat.le_of_ble_eq_true rfl) rfl (fun M hT hN K => ?_)
  refine v_aload3 (pc := 0) K dL_alike_0 ?_
  refine v_ic0 (pc := 1) K dL_alike_1 ?_
  refine v_aload0 (pc := 2) K dL_alike_2 ?_
  refine v_iload1 (pc := 3) K dL_alike_3 ?_
  refine v_iload2 (pc := 4) K dL_alike_4 ?_
  refine w_c2E (pc := 5) K ca_yX3_alike ml_RL_87 rfl (t_X3_alike _ K.nt (AdrOC K.ad) σ a0 a1 (.error "java/lang/IndexOutOfBoundsException") σ1 h) (Nat.le_of_ble_eq_true rfl) (by decide) (by decide) dL_alike_5 (fun H1 locs1 ls ce q hP hS hl hce hcv hcl => ?_)
  refine w_catch (pre := []) (x := ⟨0, 10, 13, 20⟩) (suf := []) K hN (hT.trans rfl) (fun z hz => nomatch hz) (by decide) (by decide) kl_20 (by decide +kernel) hP hS hl hce hcv hcl ?_
  have K := w_up K
  refine v_astore4 (pc := 13) K dL_alike_13 rfl (Nat.le_of_ble_eq_true rfl) ?_
  refine v_ic1 (pc := 15) K dL_alike_15 ?_
  exact v_wret (pc := 16) K dL_alike_16 rfl (by decide) (by decide)
set_option maxRecDepth 100000 in
theorem tw_row_ok (l : Launch) (hnt : l.stackTraces = false) {E : Ev} {base : Nat} (hE : Adr YO E base) (σ : St) (a0 : Int32) (a1 : Int32) (v : Int32) (σ1 : St) (h : c_X3_row σ a0 a1 = some (.ok v, σ1)) : WCtr l yL_row cL_row 5 [(0, 10, 13, 20)] 8 144 E base [.ref (E.2.2 0), .int a0, .int a1, .ref (E.2.2 28)] σ 0 (sL (mgO σ1 σ) 28 0 v.toInt64) := by
  refine ofWW 1 (by decide +kernel) rfl hE hnt (Nat.le_of_ble_eq_true rfl) rfl (fun M hT hN K => ?_)
  refine v_aload3 (pc := 0) K dL_row_0 ?_
  refine v_ic0 (pc := 1) K dL_row_1 ?_
  refine v_aload0 (pc := 2) K dL_row_2 ?_
  refine v_iload1 (pc := 3) K dL_row_3 ?_
  refine v_iload2 (pc := 4) K dL_row_4 ?_
  refine w_c2I (pc := 5) K ca_yX3_row ml_RL_90 rfl (t_X3_row _ K.nt (AdrOC K.ad) σ a0 a1 (.ok v) σ1 h) (Nat.le_of_ble_eq_true rfl) (by decide) (by decide) dL_row_5 ?_
  refine v_i2l (pc := 8) K dL_row_8 ?_
  refine v_lastore (pc := 9) (i := 28) (n := 1) K dL_row_9 (Nat.le_of_ble_eq_true rfl) rfl ix01 ?_
  refine v_goto (pc := 10) (tgt := 17) K dL_row_10 (by decide) ?_
  refine v_ic0 (pc := 17) K dL_row_17 ?_
  exact v_wret (pc := 18) K dL_row_18 rfl (by decide) (by decide)
set_option maxRecDepth 100000 in
theorem tw_row_e1 (l : Launch) (hnt : l.stackTraces = false) {E : Ev} {base : Nat} (hE : Adr YO E base) (σ : St) (a0 : Int32) (a1 : Int32)  (σ1 : St) (h : c_X3_row σ a0 a1 = some (.error "java/lang/IndexOutOfBoundsException", σ1)) : WCtr l yL_row cL_row 5 [(0, 10, 13, 20)] 8 144 E base [.ref (E.2.2 0), .int a0, .int a1, .ref (E.2.2 28)] σ 1 (mgO σ1 σ) := by
  refine ofWW 1 (by decide +kernel) rfl hE hnt (Nat.le_of_ble_eq_true rfl) rfl (fun M hT hN K => ?_)
  refine v_aload3 (pc := 0) K dL_row_0 ?_
  refine v_ic0 (pc := 1) K dL_row_1 ?_
  refine v_aload0 (pc := 2) K dL_row_2 ?_
  refine v_iload1 (pc := 3) K dL_row_3 ?_
  refine v_iload2 (pc := 4) K dL_row_4 ?_
  refine w_c2E (pc := 5) K ca_yX3_row ml_RL_90 rfl (t_X3_row _ K.nt (AdrOC K.ad) σ a0 a1 (.error "java/lang/IndexOutOfBoundsException") σ1 h) (Nat.le_of_ble_eq_true rfl) (by decide) (by decide) dL_row_5 (fun H1 locs1 ls ce q hP hS hl hce hcv hcl => ?_)
  refine w_catch (pre := []) (x := ⟨0, 10, 13, 20⟩) (suf := []) K hN (hT.trans rfl) (fun z hz => nomatch hz) (by decide) (by decide) kl_20 (by decide +kernel) hP hS hl hce hcv hcl ?_
  have K := w_up K
  refine v_astore4 (pc := 13) K dL_row_13 rfl (Nat.le_of_ble_eq_true rfl) ?_
  refine v_ic1 (pc := 15) K dL_row_15 ?_
  exact v_wret (pc := 16) K dL_row_16 rfl (by decide) (by decide)
set_option maxRecDepth 100000 in
theorem tw_word_ok (l : Launch) (hnt : l.stackTraces = false) {E : Ev} {base : Nat} (hE : Adr YO E base) (σ : St) (a0 : Int32) (a1 : Int32) (v : Int64) (σ1 : St) (h : c_X3_word σ a0 a1 = some (.ok v, σ1)) : WCtr l yL_word cL_word 5 [(0, 9, 12, 20)] 8 142 E base [.ref (E.2.2 0), .int a0, .int a1, .ref (E.2.2 28)] σ 0 (sL (mgO σ1 σ) 28 0 v) := by
  refine ofWW 1 (by decide +kernel) rfl hE hnt (Nat.le_of_ble_eq_true rfl) rfl (fun M hT hN K => ?_)
  refine v_aload3 (pc := 0) K dL_word_0 ?_
  refine v_ic0 (pc := 1) K dL_word_1 ?_
  refine v_aload0 (pc := 2) K dL_word_2 ?_
  refine v_iload1 (pc := 3) K dL_word_3 ?_
  refine v_iload2 (pc := 4) K dL_word_4 ?_
  refine w_c2L (pc := 5) K ca_yX3_word ml_RL_93 rfl (t_X3_word _ K.nt (AdrOC K.ad) σ a0 a1 (.ok v) σ1 h) (Nat.le_of_ble_eq_true rfl) (by decide) (by decide) dL_word_5 ?_
  refine v_lastore (pc := 8) (i := 28) (n := 1) K dL_word_8 (Nat.le_of_ble_eq_true rfl) rfl ix01 ?_
  refine v_goto (pc := 9) (tgt := 16) K dL_word_9 (by decide) ?_
  refine v_ic0 (pc := 16) K dL_word_16 ?_
  exact v_wret (pc := 17) K dL_word_17 rfl (by decide) (by decide)
set_option maxRecDepth 100000 in
theorem tw_word_e1 (l : Launch) (hnt : l.stackTraces = false) {E : Ev} {base : Nat} (hE : Adr YO E base) (σ : St) (a0 : Int32) (a1 : Int32)  (σ1 : St) (h : c_X3_word σ a0 a1 = some (.error "java/lang/IndexOutOfBoundsException", σ1)) : WCtr l yL_word cL_word 5 [(0, 9, 12, 20)] 8 142 E base [.ref (E.2.2 0), .int a0, .int a1, .ref (E.2.2 28)] σ 1 (mgO σ1 σ) := by
  refine ofWW 1 (by decide +kernel) rfl hE hnt (Nat.le_of_ble_eq_true rfl) rfl (fun M hT hN K => ?_)
  refine v_aload3 (pc := 0) K dL_word_0 ?_
  refine v_ic0 (pc := 1) K dL_word_1 ?_
  refine v_aload0 (pc := 2) K dL_word_2 ?_
  refine v_iload1 (pc := 3) K dL_word_3 ?_
  refine v_iload2 (pc := 4) K dL_word_4 ?_
  refine w_c2E (pc := 5) K ca_yX3_word ml_RL_93 rfl (t_X3_word _ K.nt (AdrOC K.ad) σ a0 a1 (.error "java/lang/IndexOutOfBoundsException") σ1 h) (Nat.le_of_ble_eq_true rfl) (by decide) (by decide) dL_word_5 (fun H1 locs1 ls ce q hP hS hl hce hcv hcl => ?_)
  refine w_catch (pre := []) (x := ⟨0, 9, 12, 20⟩) (suf := []) K hN (hT.trans rfl) (fun z hz => nomatch hz) (by decide) (by decide) kl_20 (by decide +kernel) hP hS hl hce hcv hcl ?_
  have K := w_up K
  refine v_astore4 (pc := 12) K dL_word_12 rfl (Nat.le_of_ble_eq_true rfl) ?_
  refine v_ic1 (pc := 14) K dL_word_14 ?_
  exact v_wret (pc := 15) K dL_word_15 rfl (by decide) (by decide)
set_option maxRecDepth 100000 in
theorem tw_count_ok (l : Launch) (hnt : l.stackTraces = false) {E : Ev} {base : Nat} (hE : Adr YO E base) (σ : St) (a0 : Int32) (a1 : Int32) (v : Int32) (σ1 : St) (h : c_X3_count σ a0 a1 = some (.ok v, σ1)) : WCtr l yL_count cL_count 5 [(0, 10, 13, 20)] 8 143 E base [.ref (E.2.2 0), .int a0, .int a1, .ref (E.2.2 28)] σ 0 (sL (mgO σ1 σ) 28 0 v.toInt64) := by
  refine ofWW 1 (by decide +kernel) rfl hE hnt (Nat.le_of_ble_eq_true rfl) rfl (fun M hT hN K => ?_)
  refine v_aload3 (pc := 0) K dL_count_0 ?_
  refine v_ic0 (pc := 1) K dL_count_1 ?_
  refine v_aload0 (pc := 2) K dL_count_2 ?_
  refine v_iload1 (pc := 3) K dL_count_3 ?_
  refine v_iload2 (pc := 4) K dL_count_4 ?_
  refine w_c2I (pc := 5) K ca_yX3_count ml_RL_96 rfl (t_X3_count _ K.nt (AdrOC K.ad) σ a0 a1 (.ok v) σ1 h) (Nat.le_of_ble_eq_true rfl) (by decide) (by decide) dL_count_5 ?_
  refine v_i2l (pc := 8) K dL_count_8 ?_
  refine v_lastore (pc := 9) (i := 28) (n := 1) K dL_count_9 (Nat.le_of_ble_eq_true rfl) rfl ix01 ?_
  refine v_goto (pc := 10) (tgt := 17) K dL_count_10 (by decide) ?_
  refine v_ic0 (pc := 17) K dL_count_17 ?_
  exact v_wret (pc := 18) K dL_count_18 rfl (by decide) (by decide)
set_option maxRecDepth 100000 in
theorem tw_count_e1 (l : Launch) (hnt : l.stackTraces = false) {E : Ev} {base : Nat} (hE : Adr YO E base) (σ : St) (a0 : Int32) (a1 : Int32)  (σ1 : St) (h : c_X3_count σ a0 a1 = some (.error "java/lang/IndexOutOfBoundsException", σ1)) : WCtr l yL_count cL_count 5 [(0, 10, 13, 20)] 8 143 E base [.ref (E.2.2 0), .int a0, .int a1, .ref (E.2.2 28)] σ 1 (mgO σ1 σ) := by
  refine ofWW 1 (by decide +kernel) rfl hE hnt (Nat.le_of_ble_eq_true rfl) rfl (fun M hT hN K => ?_)
  refine v_aload3 (pc := 0) K dL_count_0 ?_
  refine v_ic0 (pc := 1) K dL_count_1 ?_
  refine v_aload0 (pc := 2) K dL_count_2 ?_
  refine v_iload1 (pc := 3) K dL_count_3 ?_
  refine v_iload2 (pc := 4) K dL_count_4 ?_
  refine w_c2E (pc := 5) K ca_yX3_count ml_RL_96 rfl (t_X3_count _ K.nt (AdrOC K.ad) σ a0 a1 (.error "java/lang/IndexOutOfBoundsException") σ1 h) (Nat.le_of_ble_eq_true rfl) (by decide) (by decide) dL_count_5 (fun H1 locs1 ls ce q hP hS hl hce hcv hcl => ?_)
  refine w_catch (pre := []) (x := ⟨0, 10, 13, 20⟩) (suf := []) K hN (hT.trans rfl) (fun z hz => nomatch hz) (by decide) (by decide) kl_20 (by decide +kernel) hP hS hl hce hcv hcl ?_
  have K := w_up K
  refine v_astore4 (pc := 13) K dL_count_13 rfl (Nat.le_of_ble_eq_true rfl) ?_
  refine v_ic1 (pc := 15) K dL_count_15 ?_
  exact v_wret (pc := 16) K dL_count_16 rfl (by decide) (by decide)
set_option maxRecDepth 100000 in
theorem tw_sum_ok (l : Launch) (hnt : l.stackTraces = false) {E : Ev} {base : Nat} (hE : Adr YO E base) (σ : St) (a0 : Int32) (a1 : Int32) (v : Int64) (σ1 : St) (h : c_X3_sum σ a0 a1 = some (.ok v, σ1)) : WCtr l yL_sum cL_sum 5 [(0, 9, 12, 20), (0, 9, 16, 29)] 10 186 E base [.ref (E.2.2 0), .int a0, .int a1, .ref (E.2.2 28)] σ 0 (sL (mgO σ1 σ) 28 0 v) := by
  refine ofWW 1 (by decide +kernel) rfl hE hnt (Nat.le_of_ble_eq_true rfl) rfl (fun M hT hN K => ?_)
  refine v_aload3 (pc := 0) K dL_sum_0 ?_
  refine v_ic0 (pc := 1) K dL_sum_1 ?_
  refine v_aload0 (pc := 2) K dL_sum_2 ?_
  refine v_iload1 (pc := 3) K dL_sum_3 ?_
  refine v_iload2 (pc := 4) K dL_sum_4 ?_
  refine w_c2L (pc := 5) K ca_yX3_sum ml_RL_99 rfl (t_X3_sum _ K.nt (AdrOC K.ad) σ a0 a1 (.ok v) σ1 h) (Nat.le_of_ble_eq_true rfl) (by decide) (by decide) dL_sum_5 ?_
  refine v_lastore (pc := 8) (i := 28) (n := 1) K dL_sum_8 (Nat.le_of_ble_eq_true rfl) rfl ix01 ?_
  refine v_goto (pc := 9) (tgt := 20) K dL_sum_9 (by decide) ?_
  refine v_ic0 (pc := 20) K dL_sum_20 ?_
  exact v_wret (pc := 21) K dL_sum_21 rfl (by decide) (by decide)
set_option maxRecDepth 100000 in
theorem tw_sum_e1 (l : Launch) (hnt : l.stackTraces = false) {E : Ev} {base : Nat} (hE : Adr YO E base) (σ : St) (a0 : Int32) (a1 : Int32)  (σ1 : St) (h : c_X3_sum σ a0 a1 = some (.error "java/lang/IndexOutOfBoundsException", σ1)) : WCtr l yL_sum cL_sum 5 [(0, 9, 12, 20), (0, 9, 16, 29)] 10 186 E base [.ref (E.2.2 0), .int a0, .int a1, .ref (E.2.2 28)] σ 1 (mgO σ1 σ) := by
  refine ofWW 1 (by decide +kernel) rfl hE hnt (Nat.le_of_ble_eq_true rfl) rfl (fun M hT hN K => ?_)
  refine v_aload3 (pc := 0) K dL_sum_0 ?_
  refine v_ic0 (pc := 1) K dL_sum_1 ?_
  refine v_aload0 (pc := 2) K dL_sum_2 ?_
  refine v_iload1 (pc := 3) K dL_sum_3 ?_
  refine v_iload2 (pc := 4) K dL_sum_4 ?_
  refine w_c2E (pc := 5) K ca_yX3_sum ml_RL_99 rfl (t_X3_sum _ K.nt (AdrOC K.ad) σ a0 a1 (.error "java/lang/IndexOutOfBoundsException") σ1 h) (Nat.le_of_ble_eq_true rfl) (by decide) (by decide) dL_sum_5 (fun H1 locs1 ls ce q hP hS hl hce hcv hcl => ?_)
  refine w_catch (pre := []) (x := ⟨0, 9, 12, 20⟩) (suf := [⟨0, 9, 16, 29⟩]) K hN (hT.trans rfl) (fun z hz => nomatch hz) (by decide) (by decide) kl_20 (by decide +kernel) hP hS hl hce hcv hcl ?_
  have K := w_up K
  refine v_astore4 (pc := 12) K dL_sum_12 rfl (Nat.le_of_ble_eq_true rfl) ?_
  refine v_ic1 (pc := 14) K dL_sum_14 ?_
  exact v_wret (pc := 15) K dL_sum_15 rfl (by decide) (by decide)
set_option maxRecDepth 100000 in
theorem tw_sum_e2 (l : Launch) (hnt : l.stackTraces = false) {E : Ev} {base : Nat} (hE : Adr YO E base) (σ : St) (a0 : Int32) (a1 : Int32)  (σ1 : St) (h : c_X3_sum σ a0 a1 = some (.error "java/lang/ArithmeticException", σ1)) : WCtr l yL_sum cL_sum 5 [(0, 9, 12, 20), (0, 9, 16, 29)] 10 186 E base [.ref (E.2.2 0), .int a0, .int a1, .ref (E.2.2 28)] σ 2 (mgO σ1 σ) := by
  refine ofWW 1 (by decide +kernel) rfl hE hnt (Nat.le_of_ble_eq_true rfl) rfl (fun M hT hN K => ?_)
  refine v_aload3 (pc := 0) K dL_sum_0 ?_
  refine v_ic0 (pc := 1) K dL_sum_1 ?_
  refine v_aload0 (pc := 2) K dL_sum_2 ?_
  refine v_iload1 (pc := 3) K dL_sum_3 ?_
  refine v_iload2 (pc := 4) K dL_sum_4 ?_
  refine w_c2E (pc := 5) K ca_yX3_sum ml_RL_99 rfl (t_X3_sum _ K.nt (AdrOC K.ad) σ a0 a1 (.error "java/lang/ArithmeticException") σ1 h) (Nat.le_of_ble_eq_true rfl) (by decide) (by decide) dL_sum_5 (fun H1 locs1 ls ce q hP hS hl hce hcv hcl => ?_)
  refine w_catch (pre := [⟨0, 9, 12, 20⟩]) (x := ⟨0, 9, 16, 29⟩) (suf := []) K hN (hT.trans rfl) (fun z hz => by rw [List.mem_singleton.mp hz]; exact ⟨by decide, "java/lang/IndexOutOfBoundsException", kl_20, by decide +kernel⟩) (by decide) (by decide) kl_29 (by decide +kernel) hP hS hl hce hcv hcl ?_
  have K := w_up K
  refine v_astore4 (pc := 16) K dL_sum_16 rfl (Nat.le_of_ble_eq_true rfl) ?_
  refine v_ic2 (pc := 18) K dL_sum_18 ?_
  exact v_wret (pc := 19) K dL_sum_19 rfl (by decide) (by decide)
set_option maxRecDepth 100000 in
theorem tw_mean_ok (l : Launch) (hnt : l.stackTraces = false) {E : Ev} {base : Nat} (hE : Adr YO E base) (σ : St) (a0 : Int32) (a1 : Int32) (a2 : Int32) (v : Int64) (σ1 : St) (h : c_X3_mean σ a0 a1 a2 = some (.ok v, σ1)) : WCtr l yL_mean cL_mean 6 [(0, 11, 14, 20), (0, 11, 18, 13), (0, 11, 22, 15)] 8 150 E base [.ref (E.2.2 0), .int a0, .int a1, .int a2, .ref (E.2.2 28)] σ 0 (sL (mgO σ1 σ) 28 0 v) := by
  refine ofWW 1 (by decide +kernel) rfl hE hnt (Nat.le_of_ble_eq_true rfl) rfl (fun M hT hN K => ?_)
  refine v_aload4 (pc := 0) K dL_mean_0 ?_
  refine v_ic0 (pc := 2) K dL_mean_2 ?_
  refine v_aload0 (pc := 3) K dL_mean_3 ?_
  refine v_iload1 (pc := 4) K dL_mean_4 ?_
  refine v_iload2 (pc := 5) K dL_mean_5 ?_
  refine v_iload3 (pc := 6) K dL_mean_6 ?_
  refine w_c3L (pc := 7) K ca_yX3_mean ml_RL_102 rfl (t_X3_mean _ K.nt (AdrOC K.ad) σ a0 a1 a2 (.ok v) σ1 h) (Nat.le_of_ble_eq_true rfl) (by decide) (by decide) dL_mean_7 ?_
  refine v_lastore (pc := 10) (i := 28) (n := 1) K dL_mean_10 (Nat.le_of_ble_eq_true rfl) rfl ix01 ?_
  refine v_goto (pc := 11) (tgt := 26) K dL_mean_11 (by decide) ?_
  refine v_ic0 (pc := 26) K dL_mean_26 ?_
  exact v_wret (pc := 27) K dL_mean_27 rfl (by decide) (by decide)
set_option maxRecDepth 100000 in
theorem tw_mean_e1 (l : Launch) (hnt : l.stackTraces = false) {E : Ev} {base : Nat} (hE : Adr YO E base) (σ : St) (a0 : Int32) (a1 : Int32) (a2 : Int32)  (σ1 : St) (h : c_X3_mean σ a0 a1 a2 = some (.error "java/lang/IndexOutOfBoundsException", σ1)) : WCtr l yL_mean cL_mean 6 [(0, 11, 14, 20), (0, 11, 18, 13), (0, 11, 22, 15)] 8 150 E base [.ref (E.2.2 0), .int a0, .int a1, .int a2, .ref (E.2.2 28)] σ 1 (mgO σ1 σ) := by
  refine ofWW 1 (by decide +kernel) rfl hE hnt (Nat.le_of_ble_eq_true rfl) rfl (fun M hT hN K => ?_)
  refine v_aload4 (pc := 0) K dL_mean_0 ?_
  refine v_ic0 (pc := 2) K dL_mean_2 ?_
  refine v_aload0 (pc := 3) K dL_mean_3 ?_
  refine v_iload1 (pc := 4) K dL_mean_4 ?_
  refine v_iload2 (pc := 5) K dL_mean_5 ?_
  refine v_iload3 (pc := 6) K dL_mean_6 ?_
  refine w_c3E (pc := 7) K ca_yX3_mean ml_RL_102 rfl (t_X3_mean _ K.nt (AdrOC K.ad) σ a0 a1 a2 (.error "java/lang/IndexOutOfBoundsException") σ1 h) (Nat.le_of_ble_eq_true rfl) (by decide) (by decide) dL_mean_7 (fun H1 locs1 ls ce q hP hS hl hce hcv hcl => ?_)
  refine w_catch (pre := []) (x := ⟨0, 11, 14, 20⟩) (suf := [⟨0, 11, 18, 13⟩, ⟨0, 11, 22, 15⟩]) K hN (hT.trans rfl) (fun z hz => nomatch hz) (by decide) (by decide) kl_20 (by decide +kernel) hP hS hl hce hcv hcl ?_
  have K := w_up K
  refine v_astore5 (pc := 14) K dL_mean_14 rfl (Nat.le_of_ble_eq_true rfl) ?_
  refine v_ic1 (pc := 16) K dL_mean_16 ?_
  exact v_wret (pc := 17) K dL_mean_17 rfl (by decide) (by decide)
set_option maxRecDepth 100000 in
theorem tw_mean_e2 (l : Launch) (hnt : l.stackTraces = false) {E : Ev} {base : Nat} (hE : Adr YO E base) (σ : St) (a0 : Int32) (a1 : Int32) (a2 : Int32)  (σ1 : St) (h : c_X3_mean σ a0 a1 a2 = some (.error "java/lang/IllegalArgumentException", σ1)) : WCtr l yL_mean cL_mean 6 [(0, 11, 14, 20), (0, 11, 18, 13), (0, 11, 22, 15)] 8 150 E base [.ref (E.2.2 0), .int a0, .int a1, .int a2, .ref (E.2.2 28)] σ 2 (mgO σ1 σ) := by
  refine ofWW 1 (by decide +kernel) rfl hE hnt (Nat.le_of_ble_eq_true rfl) rfl (fun M hT hN K => ?_)
  refine v_aload4 (pc := 0) K dL_mean_0 ?_
  refine v_ic0 (pc := 2) K dL_mean_2 ?_
  refine v_aload0 (pc := 3) K dL_mean_3 ?_
  refine v_iload1 (pc := 4) K dL_mean_4 ?_
  refine v_iload2 (pc := 5) K dL_mean_5 ?_
  refine v_iload3 (pc := 6) K dL_mean_6 ?_
  refine w_c3E (pc := 7) K ca_yX3_mean ml_RL_102 rfl (t_X3_mean _ K.nt (AdrOC K.ad) σ a0 a1 a2 (.error "java/lang/IllegalArgumentException") σ1 h) (Nat.le_of_ble_eq_true rfl) (by decide) (by decide) dL_mean_7 (fun H1 locs1 ls ce q hP hS hl hce hcv hcl => ?_)
  refine w_catch (pre := [⟨0, 11, 14, 20⟩]) (x := ⟨0, 11, 18, 13⟩) (suf := [⟨0, 11, 22, 15⟩]) K hN (hT.trans rfl) (fun z hz => by rw [List.mem_singleton.mp hz]; exact ⟨by decide, "java/lang/IndexOutOfBoundsException", kl_20, by decide +kernel⟩) (by decide) (by decide) kl_13 (by decide +kernel) hP hS hl hce hcv hcl ?_
  have K := w_up K
  refine v_astore5 (pc := 18) K dL_mean_18 rfl (Nat.le_of_ble_eq_true rfl) ?_
  refine v_ic2 (pc := 20) K dL_mean_20 ?_
  exact v_wret (pc := 21) K dL_mean_21 rfl (by decide) (by decide)
set_option maxRecDepth 100000 in
theorem tw_mean_e3 (l : Launch) (hnt : l.stackTraces = false) {E : Ev} {base : Nat} (hE : Adr YO E base) (σ : St) (a0 : Int32) (a1 : Int32) (a2 : Int32)  (σ1 : St) (h : c_X3_mean σ a0 a1 a2 = some (.error "java/lang/IllegalStateException", σ1)) : WCtr l yL_mean cL_mean 6 [(0, 11, 14, 20), (0, 11, 18, 13), (0, 11, 22, 15)] 8 150 E base [.ref (E.2.2 0), .int a0, .int a1, .int a2, .ref (E.2.2 28)] σ 3 (mgO σ1 σ) := by
  refine ofWW 1 (by decide +kernel) rfl hE hnt (Nat.le_of_ble_eq_true rfl) rfl (fun M hT hN K => ?_)
  refine v_aload4 (pc := 0) K dL_mean_0 ?_
  refine v_ic0 (pc := 2) K dL_mean_2 ?_
  refine v_aload0 (pc := 3) K dL_mean_3 ?_
  refine v_iload1 (pc := 4) K dL_mean_4 ?_
  refine v_iload2 (pc := 5) K dL_mean_5 ?_
  refine v_iload3 (pc := 6) K dL_mean_6 ?_
  refine w_c3E (pc := 7) K ca_yX3_mean ml_RL_102 rfl (t_X3_mean _ K.nt (AdrOC K.ad) σ a0 a1 a2 (.error "java/lang/IllegalStateException") σ1 h) (Nat.le_of_ble_eq_true rfl) (by decide) (by decide) dL_mean_7 (fun H1 locs1 ls ce q hP hS hl hce hcv hcl => ?_)
  refine w_catch (pre := [⟨0, 11, 14, 20⟩, ⟨0, 11, 18, 13⟩]) (x := ⟨0, 11, 22, 15⟩) (suf := []) K hN (hT.trans rfl) (fun z hz => (List.mem_cons.mp hz).elim (fun e => by rw [e]; exact ⟨by decide, "java/lang/IndexOutOfBoundsException", kl_20, by decide +kernel⟩) (fun e => by rw [List.mem_singleton.mp e]; exact ⟨by decide, "java/lang/IllegalArgumentException", kl_13, by decide +kernel⟩)) (by decide) (by decide) kl_15 (by decide +kernel) hP hS hl hce hcv hcl ?_
  have K := w_up K
  refine v_astore5 (pc := 22) K dL_mean_22 rfl (Nat.le_of_ble_eq_true rfl) ?_
  refine v_ic3 (pc := 24) K dL_mean_24 ?_
  exact v_wret (pc := 25) K dL_mean_25 rfl (by decide) (by decide)
set_option maxRecDepth 100000 in
theorem tw_kth_ok (l : Launch) (hnt : l.stackTraces = false) {E : Ev} {base : Nat} (hE : Adr YO E base) (σ : St) (a0 : Int32) (a1 : Int32) (a2 : Int32) (v : Int64) (σ1 : St) (h : c_X3_kth σ a0 a1 a2 = some (.ok v, σ1)) : WCtr l yL_kth cL_kth 6 [(0, 11, 14, 20)] 8 144 E base [.ref (E.2.2 0), .int a0, .int a1, .int a2, .ref (E.2.2 28)] σ 0 (sL (mgO σ1 σ) 28 0 v) := by
  refine ofWW 1 (by decide +kernel) rfl hE hnt (Nat.le_of_ble_eq_true rfl) rfl (fun M hT hN K => ?_)
  refine v_aload4 (pc := 0) K dL_kth_0 ?_
  refine v_ic0 (pc := 2) K dL_kth_2 ?_
  refine v_aload0 (pc := 3) K dL_kth_3 ?_
  refine v_iload1 (pc := 4) K dL_kth_4 ?_
  refine v_iload2 (pc := 5) K dL_kth_5 ?_
  refine v_iload3 (pc := 6) K dL_kth_6 ?_
  refine w_c3L (pc := 7) K ca_yX3_kth ml_RL_105 rfl (t_X3_kth _ K.nt (AdrOC K.ad) σ a0 a1 a2 (.ok v) σ1 h) (Nat.le_of_ble_eq_true rfl) (by decide) (by decide) dL_kth_7 ?_
  refine v_lastore (pc := 10) (i := 28) (n := 1) K dL_kth_10 (Nat.le_of_ble_eq_true rfl) rfl ix01 ?_
  refine v_goto (pc := 11) (tgt := 18) K dL_kth_11 (by decide) ?_
  refine v_ic0 (pc := 18) K dL_kth_18 ?_
  exact v_wret (pc := 19) K dL_kth_19 rfl (by decide) (by decide)
set_option maxRecDepth 100000 in
theorem tw_kth_e1 (l : Launch) (hnt : l.stackTraces = false) {E : Ev} {base : Nat} (hE : Adr YO E base) (σ : St) (a0 : Int32) (a1 : Int32) (a2 : Int32)  (σ1 : St) (h : c_X3_kth σ a0 a1 a2 = some (.error "java/lang/IndexOutOfBoundsException", σ1)) : WCtr l yL_kth cL_kth 6 [(0, 11, 14, 20)] 8 144 E base [.ref (E.2.2 0), .int a0, .int a1, .int a2, .ref (E.2.2 28)] σ 1 (mgO σ1 σ) := by
  refine ofWW 1 (by decide +kernel) rfl hE hnt (Nat.le_of_ble_eq_true rfl) rfl (fun M hT hN K => ?_)
  refine v_aload4 (pc := 0) K dL_kth_0 ?_
  refine v_ic0 (pc := 2) K dL_kth_2 ?_
  refine v_aload0 (pc := 3) K dL_kth_3 ?_
  refine v_iload1 (pc := 4) K dL_kth_4 ?_
  refine v_iload2 (pc := 5) K dL_kth_5 ?_
  refine v_iload3 (pc := 6) K dL_kth_6 ?_
  refine w_c3E (pc := 7) K ca_yX3_kth ml_RL_105 rfl (t_X3_kth _ K.nt (AdrOC K.ad) σ a0 a1 a2 (.error "java/lang/IndexOutOfBoundsException") σ1 h) (Nat.le_of_ble_eq_true rfl) (by decide) (by decide) dL_kth_7 (fun H1 locs1 ls ce q hP hS hl hce hcv hcl => ?_)
  refine w_catch (pre := []) (x := ⟨0, 11, 14, 20⟩) (suf := []) K hN (hT.trans rfl) (fun z hz => nomatch hz) (by decide) (by decide) kl_20 (by decide +kernel) hP hS hl hce hcv hcl ?_
  have K := w_up K
  refine v_astore5 (pc := 14) K dL_kth_14 rfl (Nat.le_of_ble_eq_true rfl) ?_
  refine v_ic1 (pc := 16) K dL_kth_16 ?_
  exact v_wret (pc := 17) K dL_kth_17 rfl (by decide) (by decide)
set_option maxRecDepth 100000 in
theorem tw_share_ok (l : Launch) (hnt : l.stackTraces = false) {E : Ev} {base : Nat} (hE : Adr YO E base) (σ : St) (a0 : Int32) (a1 : Int32) (a2 : Int32) (a3 : Int32) (v : Int64) (σ1 : St) (h : c_X3_share σ a0 a1 a2 a3 = some (.ok v, σ1)) : WCtr l yL_share cL_share 7 [(0, 13, 16, 20), (0, 13, 20, 13)] 8 146 E base [.ref (E.2.2 0), .int a0, .int a1, .int a2, .int a3, .ref (E.2.2 28)] σ 0 (sL (mgO σ1 σ) 28 0 v) := by
  refine ofWW 1 (by decide +kernel) rfl hE hnt (Nat.le_of_ble_eq_true rfl) rfl (fun M hT hN K => ?_)
  refine v_aload5 (pc := 0) K dL_share_0 ?_
  refine v_ic0 (pc := 2) K dL_share_2 ?_
  refine v_aload0 (pc := 3) K dL_share_3 ?_
  refine v_iload1 (pc := 4) K dL_share_4 ?_
  refine v_iload2 (pc := 5) K dL_share_5 ?_
  refine v_iload3 (pc := 6) K dL_share_6 ?_
  refine v_iload4 (pc := 7) K dL_share_7 ?_
  refine w_c4L (pc := 9) K ca_yX3_share ml_RL_108 rfl (t_X3_share _ K.nt (AdrOC K.ad) σ a0 a1 a2 a3 (.ok v) σ1 h) (Nat.le_of_ble_eq_true rfl) (by decide) (by decide) dL_share_9 ?_
  refine v_lastore (pc := 12) (i := 28) (n := 1) K dL_share_12 (Nat.le_of_ble_eq_true rfl) rfl ix01 ?_
  refine v_goto (pc := 13) (tgt := 24) K dL_share_13 (by decide) ?_
  refine v_ic0 (pc := 24) K dL_share_24 ?_
  exact v_wret (pc := 25) K dL_share_25 rfl (by decide) (by decide)
set_option maxRecDepth 100000 in
theorem tw_share_e1 (l : Launch) (hnt : l.stackTraces = false) {E : Ev} {base : Nat} (hE : Adr YO E base) (σ : St) (a0 : Int32) (a1 : Int32) (a2 : Int32) (a3 : Int32)  (σ1 : St) (h : c_X3_share σ a0 a1 a2 a3 = some (.error "java/lang/IndexOutOfBoundsException", σ1)) : WCtr l yL_share cL_share 7 [(0, 13, 16, 20), (0, 13, 20, 13)] 8 146 E base [.ref (E.2.2 0), .int a0, .int a1, .int a2, .int a3, .ref (E.2.2 28)] σ 1 (mgO σ1 σ) := by
  refine ofWW 1 (by decide +kernel) rfl hE hnt (Nat.le_of_ble_eq_true rfl) rfl (fun M hT hN K => ?_)
  refine v_aload5 (pc := 0) K dL_share_0 ?_
  refine v_ic0 (pc := 2) K dL_share_2 ?_
  refine v_aload0 (pc := 3) K dL_share_3 ?_
  refine v_iload1 (pc := 4) K dL_share_4 ?_
  refine v_iload2 (pc := 5) K dL_share_5 ?_
  refine v_iload3 (pc := 6) K dL_share_6 ?_
  refine v_iload4 (pc := 7) K dL_share_7 ?_
  refine w_c4E (pc := 9) K ca_yX3_share ml_RL_108 rfl (t_X3_share _ K.nt (AdrOC K.ad) σ a0 a1 a2 a3 (.error "java/lang/IndexOutOfBoundsException") σ1 h) (Nat.le_of_ble_eq_true rfl) (by decide) (by decide) dL_share_9 (fun H1 locs1 ls ce q hP hS hl hce hcv hcl => ?_)
  refine w_catch (pre := []) (x := ⟨0, 13, 16, 20⟩) (suf := [⟨0, 13, 20, 13⟩]) K hN (hT.trans rfl) (fun z hz => nomatch hz) (by decide) (by decide) kl_20 (by decide +kernel) hP hS hl hce hcv hcl ?_
  have K := w_up K
  refine v_astore6 (pc := 16) K dL_share_16 rfl (Nat.le_of_ble_eq_true rfl) ?_
  refine v_ic1 (pc := 18) K dL_share_18 ?_
  exact v_wret (pc := 19) K dL_share_19 rfl (by decide) (by decide)
set_option maxRecDepth 100000 in
theorem tw_share_e2 (l : Launch) (hnt : l.stackTraces = false) {E : Ev} {base : Nat} (hE : Adr YO E base) (σ : St) (a0 : Int32) (a1 : Int32) (a2 : Int32) (a3 : Int32)  (σ1 : St) (h : c_X3_share σ a0 a1 a2 a3 = some (.error "java/lang/IllegalArgumentException", σ1)) : WCtr l yL_share cL_share 7 [(0, 13, 16, 20), (0, 13, 20, 13)] 8 146 E base [.ref (E.2.2 0), .int a0, .int a1, .int a2, .int a3, .ref (E.2.2 28)] σ 2 (mgO σ1 σ) := by
  refine ofWW 1 (by decide +kernel) rfl hE hnt (Nat.le_of_ble_eq_true rfl) rfl (fun M hT hN K => ?_)
  refine v_aload5 (pc := 0) K dL_share_0 ?_
  refine v_ic0 (pc := 2) K dL_share_2 ?_
  refine v_aload0 (pc := 3) K dL_share_3 ?_
  refine v_iload1 (pc := 4) K dL_share_4 ?_
  refine v_iload2 (pc := 5) K dL_share_5 ?_
  refine v_iload3 (pc := 6) K dL_share_6 ?_
  refine v_iload4 (pc := 7) K dL_share_7 ?_
  refine w_c4E (pc := 9) K ca_yX3_share ml_RL_108 rfl (t_X3_share _ K.nt (AdrOC K.ad) σ a0 a1 a2 a3 (.error "java/lang/IllegalArgumentException") σ1 h) (Nat.le_of_ble_eq_true rfl) (by decide) (by decide) dL_share_9 (fun H1 locs1 ls ce q hP hS hl hce hcv hcl => ?_)
  refine w_catch (pre := [⟨0, 13, 16, 20⟩]) (x := ⟨0, 13, 20, 13⟩) (suf := []) K hN (hT.trans rfl) (fun z hz => by rw [List.mem_singleton.mp hz]; exact ⟨by decide, "java/lang/IndexOutOfBoundsException", kl_20, by decide +kernel⟩) (by decide) (by decide) kl_13 (by decide +kernel) hP hS hl hce hcv hcl ?_
  have K := w_up K
  refine v_astore6 (pc := 20) K dL_share_20 rfl (Nat.le_of_ble_eq_true rfl) ?_
  refine v_ic2 (pc := 22) K dL_share_22 ?_
  exact v_wret (pc := 23) K dL_share_23 rfl (by decide) (by decide)
set_option maxRecDepth 100000 in
theorem tw_upset_ok (l : Launch) (hnt : l.stackTraces = false) {E : Ev} {base : Nat} (hE : Adr YO E base) (σ : St) (a0 : Int32) (a1 : Int32) (v : Int32) (σ1 : St) (h : c_X3_upset σ a0 a1 = some (.ok v, σ1)) : WCtr l yL_upset cL_upset 5 [(0, 10, 13, 20)] 8 143 E base [.ref (E.2.2 0), .int a0, .int a1, .ref (E.2.2 28)] σ 0 (sL (mgO σ1 σ) 28 0 v.toInt64) := by
  refine ofWW 1 (by decide +kernel) rfl hE hnt (Nat.le_of_ble_eq_true rfl) rfl (fun M hT hN K => ?_)
  refine v_aload3 (pc := 0) K dL_upset_0 ?_
  refine v_ic0 (pc := 1) K dL_upset_1 ?_
  refine v_aload0 (pc := 2) K dL_upset_2 ?_
  refine v_iload1 (pc := 3) K dL_upset_3 ?_
  refine v_iload2 (pc := 4) K dL_upset_4 ?_
  refine w_c2I (pc := 5) K ca_yX3_upset ml_RL_112 rfl (t_X3_upset _ K.nt (AdrOC K.ad) σ a0 a1 (.ok v) σ1 h) (Nat.le_of_ble_eq_true rfl) (by decide) (by decide) dL_upset_5 ?_
  refine v_i2l (pc := 8) K dL_upset_8 ?_
  refine v_lastore (pc := 9) (i := 28) (n := 1) K dL_upset_9 (Nat.le_of_ble_eq_true rfl) rfl ix01 ?_
  refine v_goto (pc := 10) (tgt := 17) K dL_upset_10 (by decide) ?_
  refine v_ic0 (pc := 17) K dL_upset_17 ?_
  exact v_wret (pc := 18) K dL_upset_18 rfl (by decide) (by decide)
set_option maxRecDepth 100000 in
theorem tw_upset_e1 (l : Launch) (hnt : l.stackTraces = false) {E : Ev} {base : Nat} (hE : Adr YO E base) (σ : St) (a0 : Int32) (a1 : Int32)  (σ1 : St) (h : c_X3_upset σ a0 a1 = some (.error "java/lang/IndexOutOfBoundsException", σ1)) : WCtr l yL_upset cL_upset 5 [(0, 10, 13, 20)] 8 143 E base [.ref (E.2.2 0), .int a0, .int a1, .ref (E.2.2 28)] σ 1 (mgO σ1 σ) := by
  refine ofWW 1 (by decide +kernel) rfl hE hnt (Nat.le_of_ble_eq_true rfl) rfl (fun M hT hN K => ?_)
  refine v_aload3 (pc := 0) K dL_upset_0 ?_
  refine v_ic0 (pc := 1) K dL_upset_1 ?_
  refine v_aload0 (pc := 2) K dL_upset_2 ?_
  refine v_iload1 (pc := 3) K dL_upset_3 ?_
  refine v_iload2 (pc := 4) K dL_upset_4 ?_
  refine w_c2E (pc := 5) K ca_yX3_upset ml_RL_112 rfl (t_X3_upset _ K.nt (AdrOC K.ad) σ a0 a1 (.error "java/lang/IndexOutOfBoundsException") σ1 h) (Nat.le_of_ble_eq_true rfl) (by decide) (by decide) dL_upset_5 (fun H1 locs1 ls ce q hP hS hl hce hcv hcl => ?_)
  refine w_catch (pre := []) (x := ⟨0, 10, 13, 20⟩) (suf := []) K hN (hT.trans rfl) (fun z hz => nomatch hz) (by decide) (by decide) kl_20 (by decide +kernel) hP hS hl hce hcv hcl ?_
  have K := w_up K
  refine v_astore4 (pc := 13) K dL_upset_13 rfl (Nat.le_of_ble_eq_true rfl) ?_
  refine v_ic1 (pc := 15) K dL_upset_15 ?_
  exact v_wret (pc := 16) K dL_upset_16 rfl (by decide) (by decide)
set_option maxRecDepth 100000 in
theorem tw_rank_ok (l : Launch) (hnt : l.stackTraces = false) {E : Ev} {base : Nat} (hE : Adr YO E base) (σ : St) (a0 : Int32) (a1 : Int32) (a2 : Int64) (a3 : Int32) (v : Int32) (σ1 : St) (h : c_X3_rank σ a0 a1 a2 a3 = some (.ok v, σ1)) : WCtr l yL_rank cL_rank 8 [(0, 14, 17, 20), (0, 14, 21, 13)] 8 146 E base [.ref (E.2.2 0), .int a0, .int a1, .long a2, .int a3, .ref (E.2.2 28)] σ 0 (sL (mgO σ1 σ) 28 0 v.toInt64) := by
  refine ofWW 1 (by decide +kernel) rfl hE hnt (Nat.le_of_ble_eq_true rfl) rfl (fun M hT hN K => ?_)
  refine v_aload6 (pc := 0) K dL_rank_0 ?_
  refine v_ic0 (pc := 2) K dL_rank_2 ?_
  refine v_aload0 (pc := 3) K dL_rank_3 ?_
  refine v_iload1 (pc := 4) K dL_rank_4 ?_
  refine v_iload2 (pc := 5) K dL_rank_5 ?_
  refine v_lload3 (pc := 6) K dL_rank_6 ?_
  refine v_iload5 (pc := 7) K dL_rank_7 ?_
  refine w_c4I (pc := 9) K ca_yX3_rank ml_RL_115 rfl (t_X3_rank _ K.nt (AdrOC K.ad) σ a0 a1 a2 a3 (.ok v) σ1 h) (Nat.le_of_ble_eq_true rfl) (by decide) (by decide) dL_rank_9 ?_
  refine v_i2l (pc := 12) K dL_rank_12 ?_
  refine v_lastore (pc := 13) (i := 28) (n := 1) K dL_rank_13 (Nat.le_of_ble_eq_true rfl) rfl ix01 ?_
  refine v_goto (pc := 14) (tgt := 25) K dL_rank_14 (by decide) ?_
  refine v_ic0 (pc := 25) K dL_rank_25 ?_
  exact v_wret (pc := 26) K dL_rank_26 rfl (by decide) (by decide)
set_option maxRecDepth 100000 in
theorem tw_rank_e1 (l : Launch) (hnt : l.stackTraces = false) {E : Ev} {base : Nat} (hE : Adr YO E base) (σ : St) (a0 : Int32) (a1 : Int32) (a2 : Int64) (a3 : Int32)  (σ1 : St) (h : c_X3_rank σ a0 a1 a2 a3 = some (.error "java/lang/IndexOutOfBoundsException", σ1)) : WCtr l yL_rank cL_rank 8 [(0, 14, 17, 20), (0, 14, 21, 13)] 8 146 E base [.ref (E.2.2 0), .int a0, .int a1, .long a2, .int a3, .ref (E.2.2 28)] σ 1 (mgO σ1 σ) := by
  refine ofWW 1 (by decide +kernel) rfl hE hnt (Nat.le_of_ble_eq_true rfl) rfl (fun M hT hN K => ?_)
  refine v_aload6 (pc := 0) K dL_rank_0 ?_
  refine v_ic0 (pc := 2) K dL_rank_2 ?_
  refine v_aload0 (pc := 3) K dL_rank_3 ?_
  refine v_iload1 (pc := 4) K dL_rank_4 ?_
  refine v_iload2 (pc := 5) K dL_rank_5 ?_
  refine v_lload3 (pc := 6) K dL_rank_6 ?_
  refine v_iload5 (pc := 7) K dL_rank_7 ?_
  refine w_c4E (pc := 9) K ca_yX3_rank ml_RL_115 rfl (t_X3_rank _ K.nt (AdrOC K.ad) σ a0 a1 a2 a3 (.error "java/lang/IndexOutOfBoundsException") σ1 h) (Nat.le_of_ble_eq_true rfl) (by decide) (by decide) dL_rank_9 (fun H1 locs1 ls ce q hP hS hl hce hcv hcl => ?_)
  refine w_catch (pre := []) (x := ⟨0, 14, 17, 20⟩) (suf := [⟨0, 14, 21, 13⟩]) K hN (hT.trans rfl) (fun z hz => nomatch hz) (by decide) (by decide) kl_20 (by decide +kernel) hP hS hl hce hcv hcl ?_
  have K := w_up K
  refine v_astore7 (pc := 17) K dL_rank_17 rfl (Nat.le_of_ble_eq_true rfl) ?_
  refine v_ic1 (pc := 19) K dL_rank_19 ?_
  exact v_wret (pc := 20) K dL_rank_20 rfl (by decide) (by decide)
set_option maxRecDepth 100000 in
theorem tw_rank_e2 (l : Launch) (hnt : l.stackTraces = false) {E : Ev} {base : Nat} (hE : Adr YO E base) (σ : St) (a0 : Int32) (a1 : Int32) (a2 : Int64) (a3 : Int32)  (σ1 : St) (h : c_X3_rank σ a0 a1 a2 a3 = some (.error "java/lang/IllegalArgumentException", σ1)) : WCtr l yL_rank cL_rank 8 [(0, 14, 17, 20), (0, 14, 21, 13)] 8 146 E base [.ref (E.2.2 0), .int a0, .int a1, .long a2, .int a3, .ref (E.2.2 28)] σ 2 (mgO σ1 σ) := by
  refine ofWW 1 (by decide +kernel) rfl hE hnt (Nat.le_of_ble_eq_true rfl) rfl (fun M hT hN K => ?_)
  refine v_aload6 (pc := 0) K dL_rank_0 ?_
  refine v_ic0 (pc := 2) K dL_rank_2 ?_
  refine v_aload0 (pc := 3) K dL_rank_3 ?_
  refine v_iload1 (pc := 4) K dL_rank_4 ?_
  refine v_iload2 (pc := 5) K dL_rank_5 ?_
  refine v_lload3 (pc := 6) K dL_rank_6 ?_
  refine v_iload5 (pc := 7) K dL_rank_7 ?_
  refine w_c4E (pc := 9) K ca_yX3_rank ml_RL_115 rfl (t_X3_rank _ K.nt (AdrOC K.ad) σ a0 a1 a2 a3 (.error "java/lang/IllegalArgumentException") σ1 h) (Nat.le_of_ble_eq_true rfl) (by decide) (by decide) dL_rank_9 (fun H1 locs1 ls ce q hP hS hl hce hcv hcl => ?_)
  refine w_catch (pre := [⟨0, 14, 17, 20⟩]) (x := ⟨0, 14, 21, 13⟩) (suf := []) K hN (hT.trans rfl) (fun z hz => by rw [List.mem_singleton.mp hz]; exact ⟨by decide, "java/lang/IndexOutOfBoundsException", kl_20, by decide +kernel⟩) (by decide) (by decide) kl_13 (by decide +kernel) hP hS hl hce hcv hcl ?_
  have K := w_up K
  refine v_astore7 (pc := 21) K dL_rank_21 rfl (Nat.le_of_ble_eq_true rfl) ?_
  refine v_ic2 (pc := 23) K dL_rank_23 ?_
  exact v_wret (pc := 24) K dL_rank_24 rfl (by decide) (by decide)
set_option maxRecDepth 100000 in
theorem tw_unlike_ok (l : Launch) (hnt : l.stackTraces = false) {E : Ev} {base : Nat} (hE : Adr YO E base) (σ : St) (a0 : Int32) (a1 : Int32) (a2 : Int32) (v : Int64) (σ1 : St) (h : c_X3_unlike σ a0 a1 a2 = some (.ok v, σ1)) : WCtr l yL_unlike cL_unlike 6 [(0, 11, 14, 20), (0, 11, 18, 13)] 8 151 E base [.ref (E.2.2 0), .int a0, .int a1, .int a2, .ref (E.2.2 28)] σ 0 (sL (mgO σ1 σ) 28 0 v) := by
  refine ofWW 1 (by decide +kernel) rfl hE hnt (Nat.le_of_ble_eq_true rfl) rfl (fun M hT hN K => ?_)
  refine v_aload4 (pc := 0) K dL_unlike_0 ?_
  refine v_ic0 (pc := 2) K dL_unlike_2 ?_
  refine v_aload0 (pc := 3) K dL_unlike_3 ?_
  refine v_iload1 (pc := 4) K dL_unlike_4 ?_
  refine v_iload2 (pc := 5) K dL_unlike_5 ?_
  refine v_iload3 (pc := 6) K dL_unlike_6 ?_
  refine w_c3L (pc := 7) K ca_yX3_unlike ml_RL_119 rfl (t_X3_unlike _ K.nt (AdrOC K.ad) σ a0 a1 a2 (.ok v) σ1 h) (Nat.le_of_ble_eq_true rfl) (by decide) (by decide) dL_unlike_7 ?_
  refine v_lastore (pc := 10) (i := 28) (n := 1) K dL_unlike_10 (Nat.le_of_ble_eq_true rfl) rfl ix01 ?_
  refine v_goto (pc := 11) (tgt := 22) K dL_unlike_11 (by decide) ?_
  refine v_ic0 (pc := 22) K dL_unlike_22 ?_
  exact v_wret (pc := 23) K dL_unlike_23 rfl (by decide) (by decide)
set_option maxRecDepth 100000 in
theorem tw_unlike_e1 (l : Launch) (hnt : l.stackTraces = false) {E : Ev} {base : Nat} (hE : Adr YO E base) (σ : St) (a0 : Int32) (a1 : Int32) (a2 : Int32)  (σ1 : St) (h : c_X3_unlike σ a0 a1 a2 = some (.error "java/lang/IndexOutOfBoundsException", σ1)) : WCtr l yL_unlike cL_unlike 6 [(0, 11, 14, 20), (0, 11, 18, 13)] 8 151 E base [.ref (E.2.2 0), .int a0, .int a1, .int a2, .ref (E.2.2 28)] σ 1 (mgO σ1 σ) := by
  refine ofWW 1 (by decide +kernel) rfl hE hnt (Nat.le_of_ble_eq_true rfl) rfl (fun M hT hN K => ?_)
  refine v_aload4 (pc := 0) K dL_unlike_0 ?_
  refine v_ic0 (pc := 2) K dL_unlike_2 ?_
  refine v_aload0 (pc := 3) K dL_unlike_3 ?_
  refine v_iload1 (pc := 4) K dL_unlike_4 ?_
  refine v_iload2 (pc := 5) K dL_unlike_5 ?_
  refine v_iload3 (pc := 6) K dL_unlike_6 ?_
  refine w_c3E (pc := 7) K ca_yX3_unlike ml_RL_119 rfl (t_X3_unlike _ K.nt (AdrOC K.ad) σ a0 a1 a2 (.error "java/lang/IndexOutOfBoundsException") σ1 h) (Nat.le_of_ble_eq_true rfl) (by decide) (by decide) dL_unlike_7 (fun H1 locs1 ls ce q hP hS hl hce hcv hcl => ?_)
  refine w_catch (pre := []) (x := ⟨0, 11, 14, 20⟩) (suf := [⟨0, 11, 18, 13⟩]) K hN (hT.trans rfl) (fun z hz => nomatch hz) (by decide) (by decide) kl_20 (by decide +kernel) hP hS hl hce hcv hcl ?_
  have K := w_up K
  refine v_astore5 (pc := 14) K dL_unlike_14 rfl (Nat.le_of_ble_eq_true rfl) ?_
  refine v_ic1 (pc := 16) K dL_unlike_16 ?_
  exact v_wret (pc := 17) K dL_unlike_17 rfl (by decide) (by decide)
set_option maxRecDepth 100000 in
theorem tw_unlike_e2 (l : Launch) (hnt : l.stackTraces = false) {E : Ev} {base : Nat} (hE : Adr YO E base) (σ : St) (a0 : Int32) (a1 : Int32) (a2 : Int32)  (σ1 : St) (h : c_X3_unlike σ a0 a1 a2 = some (.error "java/lang/IllegalArgumentException", σ1)) : WCtr l yL_unlike cL_unlike 6 [(0, 11, 14, 20), (0, 11, 18, 13)] 8 151 E base [.ref (E.2.2 0), .int a0, .int a1, .int a2, .ref (E.2.2 28)] σ 2 (mgO σ1 σ) := by
  refine ofWW 1 (by decide +kernel) rfl hE hnt (Nat.le_of_ble_eq_true rfl) rfl (fun M hT hN K => ?_)
  refine v_aload4 (pc := 0) K dL_unlike_0 ?_
  refine v_ic0 (pc := 2) K dL_unlike_2 ?_
  refine v_aload0 (pc := 3) K dL_unlike_3 ?_
  refine v_iload1 (pc := 4) K dL_unlike_4 ?_
  refine v_iload2 (pc := 5) K dL_unlike_5 ?_
  refine v_iload3 (pc := 6) K dL_unlike_6 ?_
  refine w_c3E (pc := 7) K ca_yX3_unlike ml_RL_119 rfl (t_X3_unlike _ K.nt (AdrOC K.ad) σ a0 a1 a2 (.error "java/lang/IllegalArgumentException") σ1 h) (Nat.le_of_ble_eq_true rfl) (by decide) (by decide) dL_unlike_7 (fun H1 locs1 ls ce q hP hS hl hce hcv hcl => ?_)
  refine w_catch (pre := [⟨0, 11, 14, 20⟩]) (x := ⟨0, 11, 18, 13⟩) (suf := []) K hN (hT.trans rfl) (fun z hz => by rw [List.mem_singleton.mp hz]; exact ⟨by decide, "java/lang/IndexOutOfBoundsException", kl_20, by decide +kernel⟩) (by decide) (by decide) kl_13 (by decide +kernel) hP hS hl hce hcv hcl ?_
  have K := w_up K
  refine v_astore5 (pc := 18) K dL_unlike_18 rfl (Nat.le_of_ble_eq_true rfl) ?_
  refine v_ic2 (pc := 20) K dL_unlike_20 ?_
  exact v_wret (pc := 21) K dL_unlike_21 rfl (by decide) (by decide)
set_option maxRecDepth 100000 in
theorem tw_ones_ok (l : Launch) (hnt : l.stackTraces = false) {E : Ev} {base : Nat} (hE : Adr YO E base) (σ : St) (a0 : Int32) (a1 : Int32) (a2 : Int32) (v : Int32) (σ1 : St) (h : c_X3_ones σ a0 a1 a2 = some (.ok v, σ1)) : WCtr l yL_ones cL_ones 6 [(0, 12, 15, 20)] 8 147 E base [.ref (E.2.2 0), .int a0, .int a1, .int a2, .ref (E.2.2 28)] σ 0 (sL (mgO σ1 σ) 28 0 v.toInt64) := by
  refine ofWW 1 (by decide +kernel) rfl hE hnt (Nat.le_of_ble_eq_true rfl) rfl (fun M hT hN K => ?_)
  refine v_aload4 (pc := 0) K dL_ones_0 ?_
  refine v_ic0 (pc := 2) K dL_ones_2 ?_
  refine v_aload0 (pc := 3) K dL_ones_3 ?_
  refine v_iload1 (pc := 4) K dL_ones_4 ?_
  refine v_iload2 (pc := 5) K dL_ones_5 ?_
  refine v_iload3 (pc := 6) K dL_ones_6 ?_
  refine w_c3I (pc := 7) K ca_yX3_ones ml_RL_122 rfl (t_X3_ones _ K.nt (AdrOC K.ad) σ a0 a1 a2 (.ok v) σ1 h) (Nat.le_of_ble_eq_true rfl) (by decide) (by decide) dL_ones_7 ?_
  refine v_i2l (pc := 10) K dL_ones_10 ?_
  refine v_lastore (pc := 11) (i := 28) (n := 1) K dL_ones_11 (Nat.le_of_ble_eq_true rfl) rfl ix01 ?_
  refine v_goto (pc := 12) (tgt := 19) K dL_ones_12 (by decide) ?_
  refine v_ic0 (pc := 19) K dL_ones_19 ?_
  exact v_wret (pc := 20) K dL_ones_20 rfl (by decide) (by decide)
set_option maxRecDepth 100000 in
theorem tw_ones_e1 (l : Launch) (hnt : l.stackTraces = false) {E : Ev} {base : Nat} (hE : Adr YO E base) (σ : St) (a0 : Int32) (a1 : Int32) (a2 : Int32)  (σ1 : St) (h : c_X3_ones σ a0 a1 a2 = some (.error "java/lang/IndexOutOfBoundsException", σ1)) : WCtr l yL_ones cL_ones 6 [(0, 12, 15, 20)] 8 147 E base [.ref (E.2.2 0), .int a0, .int a1, .int a2, .ref (E.2.2 28)] σ 1 (mgO σ1 σ) := by
  refine ofWW 1 (by decide +kernel) rfl hE hnt (Nat.le_of_ble_eq_true rfl) rfl (fun M hT hN K => ?_)
  refine v_aload4 (pc := 0) K dL_ones_0 ?_
  refine v_ic0 (pc := 2) K dL_ones_2 ?_
  refine v_aload0 (pc := 3) K dL_ones_3 ?_
  refine v_iload1 (pc := 4) K dL_ones_4 ?_
  refine v_iload2 (pc := 5) K dL_ones_5 ?_
  refine v_iload3 (pc := 6) K dL_ones_6 ?_
  refine w_c3E (pc := 7) K ca_yX3_ones ml_RL_122 rfl (t_X3_ones _ K.nt (AdrOC K.ad) σ a0 a1 a2 (.error "java/lang/IndexOutOfBoundsException") σ1 h) (Nat.le_of_ble_eq_true rfl) (by decide) (by decide) dL_ones_7 (fun H1 locs1 ls ce q hP hS hl hce hcv hcl => ?_)
  refine w_catch (pre := []) (x := ⟨0, 12, 15, 20⟩) (suf := []) K hN (hT.trans rfl) (fun z hz => nomatch hz) (by decide) (by decide) kl_20 (by decide +kernel) hP hS hl hce hcv hcl ?_
  have K := w_up K
  refine v_astore5 (pc := 15) K dL_ones_15 rfl (Nat.le_of_ble_eq_true rfl) ?_
  refine v_ic1 (pc := 17) K dL_ones_17 ?_
  exact v_wret (pc := 18) K dL_ones_18 rfl (by decide) (by decide)
set_option maxRecDepth 100000 in
theorem tw_where_ok (l : Launch) (hnt : l.stackTraces = false) {E : Ev} {base : Nat} (hE : Adr YO E base) (σ : St) (a0 : Int32) (a1 : Int32) (a2 : Int64) (v : Int32) (σ1 : St) (h : c_X3_where σ a0 a1 a2 = some (.ok v, σ1)) : WCtr l yL_where cL_where 7 [(0, 12, 15, 20)] 8 146 E base [.ref (E.2.2 0), .int a0, .int a1, .long a2, .ref (E.2.2 28)] σ 0 (sL (mgO σ1 σ) 28 0 v.toInt64) := by
  refine ofWW 1 (by decide +kernel) rfl hE hnt (Nat.le_of_ble_eq_true rfl) rfl (fun M hT hN K => ?_)
  refine v_aload5 (pc := 0) K dL_where_0 ?_
  refine v_ic0 (pc := 2) K dL_where_2 ?_
  refine v_aload0 (pc := 3) K dL_where_3 ?_
  refine v_iload1 (pc := 4) K dL_where_4 ?_
  refine v_iload2 (pc := 5) K dL_where_5 ?_
  refine v_lload3 (pc := 6) K dL_where_6 ?_
  refine w_c3I (pc := 7) K ca_yX3_where ml_RL_125 rfl (t_X3_where _ K.nt (AdrOC K.ad) σ a0 a1 a2 (.ok v) σ1 h) (Nat.le_of_ble_eq_true rfl) (by decide) (by decide) dL_where_7 ?_
  refine v_i2l (pc := 10) K dL_where_10 ?_
  refine v_lastore (pc := 11) (i := 28) (n := 1) K dL_where_11 (Nat.le_of_ble_eq_true rfl) rfl ix01 ?_
  refine v_goto (pc := 12) (tgt := 19) K dL_where_12 (by decide) ?_
  refine v_ic0 (pc := 19) K dL_where_19 ?_
  exact v_wret (pc := 20) K dL_where_20 rfl (by decide) (by decide)
set_option maxRecDepth 100000 in
theorem tw_where_e1 (l : Launch) (hnt : l.stackTraces = false) {E : Ev} {base : Nat} (hE : Adr YO E base) (σ : St) (a0 : Int32) (a1 : Int32) (a2 : Int64)  (σ1 : St) (h : c_X3_where σ a0 a1 a2 = some (.error "java/lang/IndexOutOfBoundsException", σ1)) : WCtr l yL_where cL_where 7 [(0, 12, 15, 20)] 8 146 E base [.ref (E.2.2 0), .int a0, .int a1, .long a2, .ref (E.2.2 28)] σ 1 (mgO σ1 σ) := by
  refine ofWW 1 (by decide +kernel) rfl hE hnt (Nat.le_of_ble_eq_true rfl) rfl (fun M hT hN K => ?_)
  refine v_aload5 (pc := 0) K dL_where_0 ?_
  refine v_ic0 (pc := 2) K dL_where_2 ?_
  refine v_aload0 (pc := 3) K dL_where_3 ?_
  refine v_iload1 (pc := 4) K dL_where_4 ?_
  refine v_iload2 (pc := 5) K dL_where_5 ?_
  refine v_lload3 (pc := 6) K dL_where_6 ?_
  refine w_c3E (pc := 7) K ca_yX3_where ml_RL_125 rfl (t_X3_where _ K.nt (AdrOC K.ad) σ a0 a1 a2 (.error "java/lang/IndexOutOfBoundsException") σ1 h) (Nat.le_of_ble_eq_true rfl) (by decide) (by decide) dL_where_7 (fun H1 locs1 ls ce q hP hS hl hce hcv hcl => ?_)
  refine w_catch (pre := []) (x := ⟨0, 12, 15, 20⟩) (suf := []) K hN (hT.trans rfl) (fun z hz => nomatch hz) (by decide) (by decide) kl_20 (by decide +kernel) hP hS hl hce hcv hcl ?_
  have K := w_up K
  refine v_astore6 (pc := 15) K dL_where_15 rfl (Nat.le_of_ble_eq_true rfl) ?_
  refine v_ic1 (pc := 17) K dL_where_17 ?_
  exact v_wret (pc := 18) K dL_where_18 rfl (by decide) (by decide)
set_option maxRecDepth 100000 in
theorem tw_dot_ok (l : Launch) (hnt : l.stackTraces = false) {E : Ev} {base : Nat} (hE : Adr YO E base) (σ : St) (a0 : Int32) (a1 : Int32) (a2 : Int32) (v : Int64) (σ1 : St) (h : c_X3_dot σ a0 a1 a2 = some (.ok v, σ1)) : WCtr l yL_dot cL_dot 6 [(0, 11, 14, 20), (0, 11, 18, 29)] 9 164 E base [.ref (E.2.2 0), .int a0, .int a1, .int a2, .ref (E.2.2 28)] σ 0 (sL (mgO σ1 σ) 28 0 v) := by
  refine ofWW 1 (by decide +kernel) rfl hE hnt (Nat.le_of_ble_eq_true rfl) rfl (fun M hT hN K => ?_)
  refine v_aload4 (pc := 0) K dL_dot_0 ?_
  refine v_ic0 (pc := 2) K dL_dot_2 ?_
  refine v_aload0 (pc := 3) K dL_dot_3 ?_
  refine v_iload1 (pc := 4) K dL_dot_4 ?_
  refine v_iload2 (pc := 5) K dL_dot_5 ?_
  refine v_iload3 (pc := 6) K dL_dot_6 ?_
  refine w_c3L (pc := 7) K ca_yX3_dot ml_RL_128 rfl (t_X3_dot _ K.nt (AdrOC K.ad) σ a0 a1 a2 (.ok v) σ1 h) (Nat.le_of_ble_eq_true rfl) (by decide) (by decide) dL_dot_7 ?_
  refine v_lastore (pc := 10) (i := 28) (n := 1) K dL_dot_10 (Nat.le_of_ble_eq_true rfl) rfl ix01 ?_
  refine v_goto (pc := 11) (tgt := 22) K dL_dot_11 (by decide) ?_
  refine v_ic0 (pc := 22) K dL_dot_22 ?_
  exact v_wret (pc := 23) K dL_dot_23 rfl (by decide) (by decide)
set_option maxRecDepth 100000 in
theorem tw_dot_e1 (l : Launch) (hnt : l.stackTraces = false) {E : Ev} {base : Nat} (hE : Adr YO E base) (σ : St) (a0 : Int32) (a1 : Int32) (a2 : Int32)  (σ1 : St) (h : c_X3_dot σ a0 a1 a2 = some (.error "java/lang/IndexOutOfBoundsException", σ1)) : WCtr l yL_dot cL_dot 6 [(0, 11, 14, 20), (0, 11, 18, 29)] 9 164 E base [.ref (E.2.2 0), .int a0, .int a1, .int a2, .ref (E.2.2 28)] σ 1 (mgO σ1 σ) := by
  refine ofWW 1 (by decide +kernel) rfl hE hnt (Nat.le_of_ble_eq_true rfl) rfl (fun M hT hN K => ?_)
  refine v_aload4 (pc := 0) K dL_dot_0 ?_
  refine v_ic0 (pc := 2) K dL_dot_2 ?_
  refine v_aload0 (pc := 3) K dL_dot_3 ?_
  refine v_iload1 (pc := 4) K dL_dot_4 ?_
  refine v_iload2 (pc := 5) K dL_dot_5 ?_
  refine v_iload3 (pc := 6) K dL_dot_6 ?_
  refine w_c3E (pc := 7) K ca_yX3_dot ml_RL_128 rfl (t_X3_dot _ K.nt (AdrOC K.ad) σ a0 a1 a2 (.error "java/lang/IndexOutOfBoundsException") σ1 h) (Nat.le_of_ble_eq_true rfl) (by decide) (by decide) dL_dot_7 (fun H1 locs1 ls ce q hP hS hl hce hcv hcl => ?_)
  refine w_catch (pre := []) (x := ⟨0, 11, 14, 20⟩) (suf := [⟨0, 11, 18, 29⟩]) K hN (hT.trans rfl) (fun z hz => nomatch hz) (by decide) (by decide) kl_20 (by decide +kernel) hP hS hl hce hcv hcl ?_
  have K := w_up K
  refine v_astore5 (pc := 14) K dL_dot_14 rfl (Nat.le_of_ble_eq_true rfl) ?_
  refine v_ic1 (pc := 16) K dL_dot_16 ?_
  exact v_wret (pc := 17) K dL_dot_17 rfl (by decide) (by decide)
set_option maxRecDepth 100000 in
theorem tw_dot_e2 (l : Launch) (hnt : l.stackTraces = false) {E : Ev} {base : Nat} (hE : Adr YO E base) (σ : St) (a0 : Int32) (a1 : Int32) (a2 : Int32)  (σ1 : St) (h : c_X3_dot σ a0 a1 a2 = some (.error "java/lang/ArithmeticException", σ1)) : WCtr l yL_dot cL_dot 6 [(0, 11, 14, 20), (0, 11, 18, 29)] 9 164 E base [.ref (E.2.2 0), .int a0, .int a1, .int a2, .ref (E.2.2 28)] σ 2 (mgO σ1 σ) := by
  refine ofWW 1 (by decide +kernel) rfl hE hnt (Nat.le_of_ble_eq_true rfl) rfl (fun M hT hN K => ?_)
  refine v_aload4 (pc := 0) K dL_dot_0 ?_
  refine v_ic0 (pc := 2) K dL_dot_2 ?_
  refine v_aload0 (pc := 3) K dL_dot_3 ?_
  refine v_iload1 (pc := 4) K dL_dot_4 ?_
  refine v_iload2 (pc := 5) K dL_dot_5 ?_
  refine v_iload3 (pc := 6) K dL_dot_6 ?_
  refine w_c3E (pc := 7) K ca_yX3_dot ml_RL_128 rfl (t_X3_dot _ K.nt (AdrOC K.ad) σ a0 a1 a2 (.error "java/lang/ArithmeticException") σ1 h) (Nat.le_of_ble_eq_true rfl) (by decide) (by decide) dL_dot_7 (fun H1 locs1 ls ce q hP hS hl hce hcv hcl => ?_)
  refine w_catch (pre := [⟨0, 11, 14, 20⟩]) (x := ⟨0, 11, 18, 29⟩) (suf := []) K hN (hT.trans rfl) (fun z hz => by rw [List.mem_singleton.mp hz]; exact ⟨by decide, "java/lang/IndexOutOfBoundsException", kl_20, by decide +kernel⟩) (by decide) (by decide) kl_29 (by decide +kernel) hP hS hl hce hcv hcl ?_
  have K := w_up K
  refine v_astore5 (pc := 18) K dL_dot_18 rfl (Nat.le_of_ble_eq_true rfl) ?_
  refine v_ic2 (pc := 20) K dL_dot_20 ?_
  exact v_wret (pc := 21) K dL_dot_21 rfl (by decide) (by decide)
set_option maxRecDepth 100000 in
theorem tw_steps_ok (l : Launch) (hnt : l.stackTraces = false) {E : Ev} {base : Nat} (hE : Adr YO E base) (σ : St) (a0 : Int32) (a1 : Int32) (v : Int64) (σ1 : St) (h : c_X3_steps σ a0 a1 = some (.ok v, σ1)) : WCtr l yL_steps cL_steps 5 [(0, 9, 12, 20), (0, 9, 16, 29)] 9 163 E base [.ref (E.2.2 0), .int a0, .int a1, .ref (E.2.2 28)] σ 0 (sL (mgO σ1 σ) 28 0 v) := by
  refine ofWW 1 (by decide +kernel) rfl hE hnt (Nat.le_of_ble_eq_true rfl) rfl (fun M hT hN K => ?_)
  refine v_aload3 (pc := 0) K dL_steps_0 ?_
  refine v_ic0 (pc := 1) K dL_steps_1 ?_
  refine v_aload0 (pc := 2) K dL_steps_2 ?_
  refine v_iload1 (pc := 3) K dL_steps_3 ?_
  refine v_iload2 (pc := 4) K dL_steps_4 ?_
  refine w_c2L (pc := 5) K ca_yX3_steps ml_RL_131 rfl (t_X3_steps _ K.nt (AdrOC K.ad) σ a0 a1 (.ok v) σ1 h) (Nat.le_of_ble_eq_true rfl) (by decide) (by decide) dL_steps_5 ?_
  refine v_lastore (pc := 8) (i := 28) (n := 1) K dL_steps_8 (Nat.le_of_ble_eq_true rfl) rfl ix01 ?_
  refine v_goto (pc := 9) (tgt := 20) K dL_steps_9 (by decide) ?_
  refine v_ic0 (pc := 20) K dL_steps_20 ?_
  exact v_wret (pc := 21) K dL_steps_21 rfl (by decide) (by decide)
set_option maxRecDepth 100000 in
theorem tw_steps_e1 (l : Launch) (hnt : l.stackTraces = false) {E : Ev} {base : Nat} (hE : Adr YO E base) (σ : St) (a0 : Int32) (a1 : Int32)  (σ1 : St) (h : c_X3_steps σ a0 a1 = some (.error "java/lang/IndexOutOfBoundsException", σ1)) : WCtr l yL_steps cL_steps 5 [(0, 9, 12, 20), (0, 9, 16, 29)] 9 163 E base [.ref (E.2.2 0), .int a0, .int a1, .ref (E.2.2 28)] σ 1 (mgO σ1 σ) := by
  refine ofWW 1 (by decide +kernel) rfl hE hnt (Nat.le_of_ble_eq_true rfl) rfl (fun M hT hN K => ?_)
  refine v_aload3 (pc := 0) K dL_steps_0 ?_
  refine v_ic0 (pc := 1) K dL_steps_1 ?_
  refine v_aload0 (pc := 2) K dL_steps_2 ?_
  refine v_iload1 (pc := 3) K dL_steps_3 ?_
  refine v_iload2 (pc := 4) K dL_steps_4 ?_
  refine w_c2E (pc := 5) K ca_yX3_steps ml_RL_131 rfl (t_X3_steps _ K.nt (AdrOC K.ad) σ a0 a1 (.error "java/lang/IndexOutOfBoundsException") σ1 h) (Nat.le_of_ble_eq_true rfl) (by decide) (by decide) dL_steps_5 (fun H1 locs1 ls ce q hP hS hl hce hcv hcl => ?_)
  refine w_catch (pre := []) (x := ⟨0, 9, 12, 20⟩) (suf := [⟨0, 9, 16, 29⟩]) K hN (hT.trans rfl) (fun z hz => nomatch hz) (by decide) (by decide) kl_20 (by decide +kernel) hP hS hl hce hcv hcl ?_
  have K := w_up K
  refine v_astore4 (pc := 12) K dL_steps_12 rfl (Nat.le_of_ble_eq_true rfl) ?_
  refine v_ic1 (pc := 14) K dL_steps_14 ?_
  exact v_wret (pc := 15) K dL_steps_15 rfl (by decide) (by decide)
set_option maxRecDepth 100000 in
theorem tw_steps_e2 (l : Launch) (hnt : l.stackTraces = false) {E : Ev} {base : Nat} (hE : Adr YO E base) (σ : St) (a0 : Int32) (a1 : Int32)  (σ1 : St) (h : c_X3_steps σ a0 a1 = some (.error "java/lang/ArithmeticException", σ1)) : WCtr l yL_steps cL_steps 5 [(0, 9, 12, 20), (0, 9, 16, 29)] 9 163 E base [.ref (E.2.2 0), .int a0, .int a1, .ref (E.2.2 28)] σ 2 (mgO σ1 σ) := by
  refine ofWW 1 (by decide +kernel) rfl hE hnt (Nat.le_of_ble_eq_true rfl) rfl (fun M hT hN K => ?_)
  refine v_aload3 (pc := 0) K dL_steps_0 ?_
  refine v_ic0 (pc := 1) K dL_steps_1 ?_
  refine v_aload0 (pc := 2) K dL_steps_2 ?_
  refine v_iload1 (pc := 3) K dL_steps_3 ?_
  refine v_iload2 (pc := 4) K dL_steps_4 ?_
  refine w_c2E (pc := 5) K ca_yX3_steps ml_RL_131 rfl (t_X3_steps _ K.nt (AdrOC K.ad) σ a0 a1 (.error "java/lang/ArithmeticException") σ1 h) (Nat.le_of_ble_eq_true rfl) (by decide) (by decide) dL_steps_5 (fun H1 locs1 ls ce q hP hS hl hce hcv hcl => ?_)
  refine w_catch (pre := [⟨0, 9, 12, 20⟩]) (x := ⟨0, 9, 16, 29⟩) (suf := []) K hN (hT.trans rfl) (fun z hz => by rw [List.mem_singleton.mp hz]; exact ⟨by decide, "java/lang/IndexOutOfBoundsException", kl_20, by decide +kernel⟩) (by decide) (by decide) kl_29 (by decide +kernel) hP hS hl hce hcv hcl ?_
  have K := w_up K
  refine v_astore4 (pc := 16) K dL_steps_16 rfl (Nat.le_of_ble_eq_true rfl) ?_
  refine v_ic2 (pc := 18) K dL_steps_18 ?_
  exact v_wret (pc := 19) K dL_steps_19 rfl (by decide) (by decide)
set_option maxRecDepth 100000 in
theorem tw_upTo_ok (l : Launch) (hnt : l.stackTraces = false) {E : Ev} {base : Nat} (hE : Adr YO E base) (σ : St) (a0 : Int32) (a1 : Int32) (a2 : Int32) (v : Int64) (σ1 : St) (h : c_X3_upTo σ a0 a1 a2 = some (.ok v, σ1)) : WCtr l yL_upTo cL_upTo 6 [(0, 11, 14, 20), (0, 11, 18, 29)] 10 187 E base [.ref (E.2.2 0), .int a0, .int a1, .int a2, .ref (E.2.2 28)] σ 0 (sL (mgO σ1 σ) 28 0 v) := by
  refine ofWW 1 (by decide +kernel) rfl hE hnt (Nat.le_of_ble_eq_true rfl) rfl (fun M hT hN K => ?_)
  refine v_aload4 (pc := 0) K dL_upTo_0 ?_
  refine v_ic0 (pc := 2) K dL_upTo_2 ?_
  refine v_aload0 (pc := 3) K dL_upTo_3 ?_
  refine v_iload1 (pc := 4) K dL_upTo_4 ?_
  refine v_iload2 (pc := 5) K dL_upTo_5 ?_
  refine v_iload3 (pc := 6) K dL_upTo_6 ?_
  refine w_c3L (pc := 7) K ca_yX3_upTo ml_RL_134 rfl (t_X3_upTo _ K.nt (AdrOC K.ad) σ a0 a1 a2 (.ok v) σ1 h) (Nat.le_of_ble_eq_true rfl) (by decide) (by decide) dL_upTo_7 ?_
  refine v_lastore (pc := 10) (i := 28) (n := 1) K dL_upTo_10 (Nat.le_of_ble_eq_true rfl) rfl ix01 ?_
  refine v_goto (pc := 11) (tgt := 22) K dL_upTo_11 (by decide) ?_
  refine v_ic0 (pc := 22) K dL_upTo_22 ?_
  exact v_wret (pc := 23) K dL_upTo_23 rfl (by decide) (by decide)
set_option maxRecDepth 100000 in
theorem tw_upTo_e1 (l : Launch) (hnt : l.stackTraces = false) {E : Ev} {base : Nat} (hE : Adr YO E base) (σ : St) (a0 : Int32) (a1 : Int32) (a2 : Int32)  (σ1 : St) (h : c_X3_upTo σ a0 a1 a2 = some (.error "java/lang/IndexOutOfBoundsException", σ1)) : WCtr l yL_upTo cL_upTo 6 [(0, 11, 14, 20), (0, 11, 18, 29)] 10 187 E base [.ref (E.2.2 0), .int a0, .int a1, .int a2, .ref (E.2.2 28)] σ 1 (mgO σ1 σ) := by
  refine ofWW 1 (by decide +kernel) rfl hE hnt (Nat.le_of_ble_eq_true rfl) rfl (fun M hT hN K => ?_)
  refine v_aload4 (pc := 0) K dL_upTo_0 ?_
  refine v_ic0 (pc := 2) K dL_upTo_2 ?_
  refine v_aload0 (pc := 3) K dL_upTo_3 ?_
  refine v_iload1 (pc := 4) K dL_upTo_4 ?_
  refine v_iload2 (pc := 5) K dL_upTo_5 ?_
  refine v_iload3 (pc := 6) K dL_upTo_6 ?_
  refine w_c3E (pc := 7) K ca_yX3_upTo ml_RL_134 rfl (t_X3_upTo _ K.nt (AdrOC K.ad) σ a0 a1 a2 (.error "java/lang/IndexOutOfBoundsException") σ1 h) (Nat.le_of_ble_eq_true rfl) (by decide) (by decide) dL_upTo_7 (fun H1 locs1 ls ce q hP hS hl hce hcv hcl => ?_)
  refine w_catch (pre := []) (x := ⟨0, 11, 14, 20⟩) (suf := [⟨0, 11, 18, 29⟩]) K hN (hT.trans rfl) (fun z hz => nomatch hz) (by decide) (by decide) kl_20 (by decide +kernel) hP hS hl hce hcv hcl ?_
  have K := w_up K
  refine v_astore5 (pc := 14) K dL_upTo_14 rfl (Nat.le_of_ble_eq_true rfl) ?_
  refine v_ic1 (pc := 16) K dL_upTo_16 ?_
  exact v_wret (pc := 17) K dL_upTo_17 rfl (by decide) (by decide)
set_option maxRecDepth 100000 in
theorem tw_upTo_e2 (l : Launch) (hnt : l.stackTraces = false) {E : Ev} {base : Nat} (hE : Adr YO E base) (σ : St) (a0 : Int32) (a1 : Int32) (a2 : Int32)  (σ1 : St) (h : c_X3_upTo σ a0 a1 a2 = some (.error "java/lang/ArithmeticException", σ1)) : WCtr l yL_upTo cL_upTo 6 [(0, 11, 14, 20), (0, 11, 18, 29)] 10 187 E base [.ref (E.2.2 0), .int a0, .int a1, .int a2, .ref (E.2.2 28)] σ 2 (mgO σ1 σ) := by
  refine ofWW 1 (by decide +kernel) rfl hE hnt (Nat.le_of_ble_eq_true rfl) rfl (fun M hT hN K => ?_)
  refine v_aload4 (pc := 0) K dL_upTo_0 ?_
  refine v_ic0 (pc := 2) K dL_upTo_2 ?_
  refine v_aload0 (pc := 3) K dL_upTo_3 ?_
  refine v_iload1 (pc := 4) K dL_upTo_4 ?_
  refine v_iload2 (pc := 5) K dL_upTo_5 ?_
  refine v_iload3 (pc := 6) K dL_upTo_6 ?_
  refine w_c3E (pc := 7) K ca_yX3_upTo ml_RL_134 rfl (t_X3_upTo _ K.nt (AdrOC K.ad) σ a0 a1 a2 (.error "java/lang/ArithmeticException") σ1 h) (Nat.le_of_ble_eq_true rfl) (by decide) (by decide) dL_upTo_7 (fun H1 locs1 ls ce q hP hS hl hce hcv hcl => ?_)
  refine w_catch (pre := [⟨0, 11, 14, 20⟩]) (x := ⟨0, 11, 18, 29⟩) (suf := []) K hN (hT.trans rfl) (fun z hz => by rw [List.mem_singleton.mp hz]; exact ⟨by decide, "java/lang/IndexOutOfBoundsException", kl_20, by decide +kernel⟩) (by decide) (by decide) kl_29 (by decide +kernel) hP hS hl hce hcv hcl ?_
  have K := w_up K
  refine v_astore5 (pc := 18) K dL_upTo_18 rfl (Nat.le_of_ble_eq_true rfl) ?_
  refine v_ic2 (pc := 20) K dL_upTo_20 ?_
  exact v_wret (pc := 21) K dL_upTo_21 rfl (by decide) (by decide)
set_option maxRecDepth 100000 in
theorem tw_fold_ok (l : Launch) (hnt : l.stackTraces = false) {E : Ev} {base : Nat} (hE : Adr YO E base) (σ : St) (a0 : Int32) (a1 : Int32) (a2 : Int32) (v : Int64) (σ1 : St) (h : c_X3_fold σ a0 a1 a2 = some (.ok v, σ1)) : WCtr l yL_fold cL_fold 6 [(0, 11, 14, 20), (0, 11, 18, 13)] 8 147 E base [.ref (E.2.2 0), .int a0, .int a1, .int a2, .ref (E.2.2 28)] σ 0 (sL (mgO σ1 σ) 28 0 v) := by
  refine ofWW 1 (by decide +kernel) rfl hE hnt (Nat.le_of_ble_eq_true rfl) rfl (fun M hT hN K => ?_)
  refine v_aload4 (pc := 0) K dL_fold_0 ?_
  refine v_ic0 (pc := 2) K dL_fold_2 ?_
  refine v_aload0 (pc := 3) K dL_fold_3 ?_
  refine v_iload1 (pc := 4) K dL_fold_4 ?_
  refine v_iload2 (pc := 5) K dL_fold_5 ?_
  refine v_iload3 (pc := 6) K dL_fold_6 ?_
  refine w_c3L (pc := 7) K ca_yX3_fold ml_RL_137 rfl (t_X3_fold _ K.nt (AdrOC K.ad) σ a0 a1 a2 (.ok v) σ1 h) (Nat.le_of_ble_eq_true rfl) (by decide) (by decide) dL_fold_7 ?_
  refine v_lastore (pc := 10) (i := 28) (n := 1) K dL_fold_10 (Nat.le_of_ble_eq_true rfl) rfl ix01 ?_
  refine v_goto (pc := 11) (tgt := 22) K dL_fold_11 (by decide) ?_
  refine v_ic0 (pc := 22) K dL_fold_22 ?_
  exact v_wret (pc := 23) K dL_fold_23 rfl (by decide) (by decide)
set_option maxRecDepth 100000 in
theorem tw_fold_e1 (l : Launch) (hnt : l.stackTraces = false) {E : Ev} {base : Nat} (hE : Adr YO E base) (σ : St) (a0 : Int32) (a1 : Int32) (a2 : Int32)  (σ1 : St) (h : c_X3_fold σ a0 a1 a2 = some (.error "java/lang/IndexOutOfBoundsException", σ1)) : WCtr l yL_fold cL_fold 6 [(0, 11, 14, 20), (0, 11, 18, 13)] 8 147 E base [.ref (E.2.2 0), .int a0, .int a1, .int a2, .ref (E.2.2 28)] σ 1 (mgO σ1 σ) := by
  refine ofWW 1 (by decide +kernel) rfl hE hnt (Nat.le_of_ble_eq_true rfl) rfl (fun M hT hN K => ?_)
  refine v_aload4 (pc := 0) K dL_fold_0 ?_
  refine v_ic0 (pc := 2) K dL_fold_2 ?_
  refine v_aload0 (pc := 3) K dL_fold_3 ?_
  refine v_iload1 (pc := 4) K dL_fold_4 ?_
  refine v_iload2 (pc := 5) K dL_fold_5 ?_
  refine v_iload3 (pc := 6) K dL_fold_6 ?_
  refine w_c3E (pc := 7) K ca_yX3_fold ml_RL_137 rfl (t_X3_fold _ K.nt (AdrOC K.ad) σ a0 a1 a2 (.error "java/lang/IndexOutOfBoundsException") σ1 h) (Nat.le_of_ble_eq_true rfl) (by decide) (by decide) dL_fold_7 (fun H1 locs1 ls ce q hP hS hl hce hcv hcl => ?_)
  refine w_catch (pre := []) (x := ⟨0, 11, 14, 20⟩) (suf := [⟨0, 11, 18, 13⟩]) K hN (hT.trans rfl) (fun z hz => nomatch hz) (by decide) (by decide) kl_20 (by decide +kernel) hP hS hl hce hcv hcl ?_
  have K := w_up K
  refine v_astore5 (pc := 14) K dL_fold_14 rfl (Nat.le_of_ble_eq_true rfl) ?_
  refine v_ic1 (pc := 16) K dL_fold_16 ?_
  exact v_wret (pc := 17) K dL_fold_17 rfl (by decide) (by decide)
set_option maxRecDepth 100000 in
theorem tw_fold_e2 (l : Launch) (hnt : l.stackTraces = false) {E : Ev} {base : Nat} (hE : Adr YO E base) (σ : St) (a0 : Int32) (a1 : Int32) (a2 : Int32)  (σ1 : St) (h : c_X3_fold σ a0 a1 a2 = some (.error "java/lang/IllegalArgumentException", σ1)) : WCtr l yL_fold cL_fold 6 [(0, 11, 14, 20), (0, 11, 18, 13)] 8 147 E base [.ref (E.2.2 0), .int a0, .int a1, .int a2, .ref (E.2.2 28)] σ 2 (mgO σ1 σ) := by
  refine ofWW 1 (by decide +kernel) rfl hE hnt (Nat.le_of_ble_eq_true rfl) rfl (fun M hT hN K => ?_)
  refine v_aload4 (pc := 0) K dL_fold_0 ?_
  refine v_ic0 (pc := 2) K dL_fold_2 ?_
  refine v_aload0 (pc := 3) K dL_fold_3 ?_
  refine v_iload1 (pc := 4) K dL_fold_4 ?_
  refine v_iload2 (pc := 5) K dL_fold_5 ?_
  refine v_iload3 (pc := 6) K dL_fold_6 ?_
  refine w_c3E (pc := 7) K ca_yX3_fold ml_RL_137 rfl (t_X3_fold _ K.nt (AdrOC K.ad) σ a0 a1 a2 (.error "java/lang/IllegalArgumentException") σ1 h) (Nat.le_of_ble_eq_true rfl) (by decide) (by decide) dL_fold_7 (fun H1 locs1 ls ce q hP hS hl hce hcv hcl => ?_)
  refine w_catch (pre := [⟨0, 11, 14, 20⟩]) (x := ⟨0, 11, 18, 13⟩) (suf := []) K hN (hT.trans rfl) (fun z hz => by rw [List.mem_singleton.mp hz]; exact ⟨by decide, "java/lang/IndexOutOfBoundsException", kl_20, by decide +kernel⟩) (by decide) (by decide) kl_13 (by decide +kernel) hP hS hl hce hcv hcl ?_
  have K := w_up K
  refine v_astore5 (pc := 18) K dL_fold_18 rfl (Nat.le_of_ble_eq_true rfl) ?_
  refine v_ic2 (pc := 20) K dL_fold_20 ?_
  exact v_wret (pc := 21) K dL_fold_21 rfl (by decide) (by decide)
set_option maxRecDepth 100000 in
theorem tw_spread_ok (l : Launch) (hnt : l.stackTraces = false) {E : Ev} {base : Nat} (hE : Adr YO E base) (σ : St) (a0 : Int32) (a1 : Int32) (v : Int64) (σ1 : St) (h : c_X3_spread σ a0 a1 = some (.ok v, σ1)) : WCtr l yL_spread cL_spread 5 [(0, 9, 12, 20), (0, 9, 16, 29)] 9 170 E base [.ref (E.2.2 0), .int a0, .int a1, .ref (E.2.2 28)] σ 0 (sL (mgO σ1 σ) 28 0 v) := by
  refine ofWW 1 (by decide +kernel) rfl hE hnt (Nat.le_of_ble_eq_true rfl) rfl (fun M hT hN K => ?_)
  refine v_aload3 (pc := 0) K dL_spread_0 ?_
  refine v_ic0 (pc := 1) K dL_spread_1 ?_
  refine v_aload0 (pc := 2) K dL_spread_2 ?_
  refine v_iload1 (pc := 3) K dL_spread_3 ?_
  refine v_iload2 (pc := 4) K dL_spread_4 ?_
  refine w_c2L (pc := 5) K ca_yX3_spread ml_RL_140 rfl (t_X3_spread _ K.nt (AdrOC K.ad) σ a0 a1 (.ok v) σ1 h) (Nat.le_of_ble_eq_true rfl) (by decide) (by decide) dL_spread_5 ?_
  refine v_lastore (pc := 8) (i := 28) (n := 1) K dL_spread_8 (Nat.le_of_ble_eq_true rfl) rfl ix01 ?_
  refine v_goto (pc := 9) (tgt := 20) K dL_spread_9 (by decide) ?_
  refine v_ic0 (pc := 20) K dL_spread_20 ?_
  exact v_wret (pc := 21) K dL_spread_21 rfl (by decide) (by decide)
set_option maxRecDepth 100000 in
theorem tw_spread_e1 (l : Launch) (hnt : l.stackTraces = false) {E : Ev} {base : Nat} (hE : Adr YO E base) (σ : St) (a0 : Int32) (a1 : Int32)  (σ1 : St) (h : c_X3_spread σ a0 a1 = some (.error "java/lang/IndexOutOfBoundsException", σ1)) : WCtr l yL_spread cL_spread 5 [(0, 9, 12, 20), (0, 9, 16, 29)] 9 170 E base [.ref (E.2.2 0), .int a0, .int a1, .ref (E.2.2 28)] σ 1 (mgO σ1 σ) := by
  refine ofWW 1 (by decide +kernel) rfl hE hnt (Nat.le_of_ble_eq_true rfl) rfl (fun M hT hN K => ?_)
  refine v_aload3 (pc := 0) K dL_spread_0 ?_
  refine v_ic0 (pc := 1) K dL_spread_1 ?_
  refine v_aload0 (pc := 2) K dL_spread_2 ?_
  refine v_iload1 (pc := 3) K dL_spread_3 ?_
  refine v_iload2 (pc := 4) K dL_spread_4 ?_
  refine w_c2E (pc := 5) K ca_yX3_spread ml_RL_140 rfl (t_X3_spread _ K.nt (AdrOC K.ad) σ a0 a1 (.error "java/lang/IndexOutOfBoundsException") σ1 h) (Nat.le_of_ble_eq_true rfl) (by decide) (by decide) dL_spread_5 (fun H1 locs1 ls ce q hP hS hl hce hcv hcl => ?_)
  refine w_catch (pre := []) (x := ⟨0, 9, 12, 20⟩) (suf := [⟨0, 9, 16, 29⟩]) K hN (hT.trans rfl) (fun z hz => nomatch hz) (by decide) (by decide) kl_20 (by decide +kernel) hP hS hl hce hcv hcl ?_
  have K := w_up K
  refine v_astore4 (pc := 12) K dL_spread_12 rfl (Nat.le_of_ble_eq_true rfl) ?_
  refine v_ic1 (pc := 14) K dL_spread_14 ?_
  exact v_wret (pc := 15) K dL_spread_15 rfl (by decide) (by decide)
set_option maxRecDepth 100000 in
theorem tw_spread_e2 (l : Launch) (hnt : l.stackTraces = false) {E : Ev} {base : Nat} (hE : Adr YO E base) (σ : St) (a0 : Int32) (a1 : Int32)  (σ1 : St) (h : c_X3_spread σ a0 a1 = some (.error "java/lang/ArithmeticException", σ1)) : WCtr l yL_spread cL_spread 5 [(0, 9, 12, 20), (0, 9, 16, 29)] 9 170 E base [.ref (E.2.2 0), .int a0, .int a1, .ref (E.2.2 28)] σ 2 (mgO σ1 σ) := by
  refine ofWW 1 (by decide +kernel) rfl hE hnt (Nat.le_of_ble_eq_true rfl) rfl (fun M hT hN K => ?_)
  refine v_aload3 (pc := 0) K dL_spread_0 ?_
  refine v_ic0 (pc := 1) K dL_spread_1 ?_
  refine v_aload0 (pc := 2) K dL_spread_2 ?_
  refine v_iload1 (pc := 3) K dL_spread_3 ?_
  refine v_iload2 (pc := 4) K dL_spread_4 ?_
  refine w_c2E (pc := 5) K ca_yX3_spread ml_RL_140 rfl (t_X3_spread _ K.nt (AdrOC K.ad) σ a0 a1 (.error "java/lang/ArithmeticException") σ1 h) (Nat.le_of_ble_eq_true rfl) (by decide) (by decide) dL_spread_5 (fun H1 locs1 ls ce q hP hS hl hce hcv hcl => ?_)
  refine w_catch (pre := [⟨0, 9, 12, 20⟩]) (x := ⟨0, 9, 16, 29⟩) (suf := []) K hN (hT.trans rfl) (fun z hz => by rw [List.mem_singleton.mp hz]; exact ⟨by decide, "java/lang/IndexOutOfBoundsException", kl_20, by decide +kernel⟩) (by decide) (by decide) kl_29 (by decide +kernel) hP hS hl hce hcv hcl ?_
  have K := w_up K
  refine v_astore4 (pc := 16) K dL_spread_16 rfl (Nat.le_of_ble_eq_true rfl) ?_
  refine v_ic2 (pc := 18) K dL_spread_18 ?_
  exact v_wret (pc := 19) K dL_spread_19 rfl (by decide) (by decide)
set_option maxRecDepth 100000 in
theorem tw_nearest_ok (l : Launch) (hnt : l.stackTraces = false) {E : Ev} {base : Nat} (hE : Adr YO E base) (σ : St) (a0 : Int32) (a1 : Int32) (a2 : Int64) (v : Int64) (σ1 : St) (h : c_X3_nearest σ a0 a1 a2 = some (.ok v, σ1)) : WCtr l yL_nearest cL_nearest 7 [(0, 11, 14, 20)] 8 156 E base [.ref (E.2.2 0), .int a0, .int a1, .long a2, .ref (E.2.2 28)] σ 0 (sL (mgO σ1 σ) 28 0 v) := by
  refine ofWW 1 (by decide +kernel) rfl hE hnt (Nat.le_of_ble_eq_true rfl) rfl (fun M hT hN K => ?_)
  refine v_aload5 (pc := 0) K dL_nearest_0 ?_
  refine v_ic0 (pc := 2) K dL_nearest_2 ?_
  refine v_aload0 (pc := 3) K dL_nearest_3 ?_
  refine v_iload1 (pc := 4) K dL_nearest_4 ?_
  refine v_iload2 (pc := 5) K dL_nearest_5 ?_
  refine v_lload3 (pc := 6) K dL_nearest_6 ?_
  refine w_c3L (pc := 7) K ca_yX3_nearest ml_RL_143 rfl (t_X3_nearest _ K.nt (AdrOC K.ad) σ a0 a1 a2 (.ok v) σ1 h) (Nat.le_of_ble_eq_true rfl) (by decide) (by decide) dL_nearest_7 ?_
  refine v_lastore (pc := 10) (i := 28) (n := 1) K dL_nearest_10 (Nat.le_of_ble_eq_true rfl) rfl ix01 ?_
  refine v_goto (pc := 11) (tgt := 18) K dL_nearest_11 (by decide) ?_
  refine v_ic0 (pc := 18) K dL_nearest_18 ?_
  exact v_wret (pc := 19) K dL_nearest_19 rfl (by decide) (by decide)
set_option maxRecDepth 100000 in
theorem tw_nearest_e1 (l : Launch) (hnt : l.stackTraces = false) {E : Ev} {base : Nat} (hE : Adr YO E base) (σ : St) (a0 : Int32) (a1 : Int32) (a2 : Int64)  (σ1 : St) (h : c_X3_nearest σ a0 a1 a2 = some (.error "java/lang/IndexOutOfBoundsException", σ1)) : WCtr l yL_nearest cL_nearest 7 [(0, 11, 14, 20)] 8 156 E base [.ref (E.2.2 0), .int a0, .int a1, .long a2, .ref (E.2.2 28)] σ 1 (mgO σ1 σ) := by
  refine ofWW 1 (by decide +kernel) rfl hE hnt (Nat.le_of_ble_eq_true rfl) rfl (fun M hT hN K => ?_)
  refine v_aload5 (pc := 0) K dL_nearest_0 ?_
  refine v_ic0 (pc := 2) K dL_nearest_2 ?_
  refine v_aload0 (pc := 3) K dL_nearest_3 ?_
  refine v_iload1 (pc := 4) K dL_nearest_4 ?_
  refine v_iload2 (pc := 5) K dL_nearest_5 ?_
  refine v_lload3 (pc := 6) K dL_nearest_6 ?_
  refine w_c3E (pc := 7) K ca_yX3_nearest ml_RL_143 rfl (t_X3_nearest _ K.nt (AdrOC K.ad) σ a0 a1 a2 (.error "java/lang/IndexOutOfBoundsException") σ1 h) (Nat.le_of_ble_eq_true rfl) (by decide) (by decide) dL_nearest_7 (fun H1 locs1 ls ce q hP hS hl hce hcv hcl => ?_)
  refine w_catch (pre := []) (x := ⟨0, 11, 14, 20⟩) (suf := []) K hN (hT.trans rfl) (fun z hz => nomatch hz) (by decide) (by decide) kl_20 (by decide +kernel) hP hS hl hce hcv hcl ?_
  have K := w_up K
  refine v_astore6 (pc := 14) K dL_nearest_14 rfl (Nat.le_of_ble_eq_true rfl) ?_
  refine v_ic1 (pc := 16) K dL_nearest_16 ?_
  exact v_wret (pc := 17) K dL_nearest_17 rfl (by decide) (by decide)
set_option maxRecDepth 100000 in
theorem tw_box_ok (l : Launch) (hnt : l.stackTraces = false) {E : Ev} {base : Nat} (hE : Adr YO E base) (σ : St) (a0 : Int32) (a1 : Int32) (a2 : Int64) (a3 : Int64) (a4 : Int32) (v : Int32) (σ1 : St) (h : c_X3_box σ a0 a1 a2 a3 a4 = some (.ok v, σ1)) : WCtr l yL_box cL_box 10 [(0, 16, 19, 20), (0, 16, 23, 13)] 8 149 E base [.ref (E.2.2 0), .int a0, .int a1, .long a2, .long a3, .int a4, .ref (E.2.2 28)] σ 0 (sL (mgO σ1 σ) 28 0 v.toInt64) := by
  refine ofWW 1 (by decide +kernel) rfl hE hnt (Nat.le_of_ble_eq_true rfl) rfl (fun M hT hN K => ?_)
  refine v_aload8 (pc := 0) K dL_box_0 ?_
  refine v_ic0 (pc := 2) K dL_box_2 ?_
  refine v_aload0 (pc := 3) K dL_box_3 ?_
  refine v_iload1 (pc := 4) K dL_box_4 ?_
  refine v_iload2 (pc := 5) K dL_box_5 ?_
  refine v_lload3 (pc := 6) K dL_box_6 ?_
  refine v_lload5 (pc := 7) K dL_box_7 ?_
  refine v_iload7 (pc := 9) K dL_box_9 ?_
  refine w_c5I (pc := 11) K ca_yX3_box ml_RL_147 rfl (t_X3_box _ K.nt (AdrOC K.ad) σ a0 a1 a2 a3 a4 (.ok v) σ1 h) (Nat.le_of_ble_eq_true rfl) (by decide) (by decide) dL_box_11 ?_
  refine v_i2l (pc := 14) K dL_box_14 ?_
  refine v_lastore (pc := 15) (i := 28) (n := 1) K dL_box_15 (Nat.le_of_ble_eq_true rfl) rfl ix01 ?_
  refine v_goto (pc := 16) (tgt := 27) K dL_box_16 (by decide) ?_
  refine v_ic0 (pc := 27) K dL_box_27 ?_
  exact v_wret (pc := 28) K dL_box_28 rfl (by decide) (by decide)
set_option maxRecDepth 100000 in
theorem tw_box_e1 (l : Launch) (hnt : l.stackTraces = false) {E : Ev} {base : Nat} (hE : Adr YO E base) (σ : St) (a0 : Int32) (a1 : Int32) (a2 : Int64) (a3 : Int64) (a4 : Int32)  (σ1 : St) (h : c_X3_box σ a0 a1 a2 a3 a4 = some (.error "java/lang/IndexOutOfBoundsException", σ1)) : WCtr l yL_box cL_box 10 [(0, 16, 19, 20), (0, 16, 23, 13)] 8 149 E base [.ref (E.2.2 0), .int a0, .int a1, .long a2, .long a3, .int a4, .ref (E.2.2 28)] σ 1 (mgO σ1 σ) := by
  refine ofWW 1 (by decide +kernel) rfl hE hnt (Nat.le_of_ble_eq_true rfl) rfl (fun M hT hN K => ?_)
  refine v_aload8 (pc := 0) K dL_box_0 ?_
  refine v_ic0 (pc := 2) K dL_box_2 ?_
  refine v_aload0 (pc := 3) K dL_box_3 ?_
  refine v_iload1 (pc := 4) K dL_box_4 ?_
  refine v_iload2 (pc := 5) K dL_box_5 ?_
  refine v_lload3 (pc := 6) K dL_box_6 ?_
  refine v_lload5 (pc := 7) K dL_box_7 ?_
  refine v_iload7 (pc := 9) K dL_box_9 ?_
  refine w_c5E (pc := 11) K ca_yX3_box ml_RL_147 rfl (t_X3_box _ K.nt (AdrOC K.ad) σ a0 a1 a2 a3 a4 (.error "java/lang/IndexOutOfBoundsException") σ1 h) (Nat.le_of_ble_eq_true rfl) (by decide) (by decide) dL_box_11 (fun H1 locs1 ls ce q hP hS hl hce hcv hcl => ?_)
  refine w_catch (pre := []) (x := ⟨0, 16, 19, 20⟩) (suf := [⟨0, 16, 23, 13⟩]) K hN (hT.trans rfl) (fun z hz => nomatch hz) (by decide) (by decide) kl_20 (by decide +kernel) hP hS hl hce hcv hcl ?_
  have K := w_up K
  refine v_astore9 (pc := 19) K dL_box_19 rfl (Nat.le_of_ble_eq_true rfl) ?_
  refine v_ic1 (pc := 21) K dL_box_21 ?_
  exact v_wret (pc := 22) K dL_box_22 rfl (by decide) (by decide)
set_option maxRecDepth 100000 in
theorem tw_box_e2 (l : Launch) (hnt : l.stackTraces = false) {E : Ev} {base : Nat} (hE : Adr YO E base) (σ : St) (a0 : Int32) (a1 : Int32) (a2 : Int64) (a3 : Int64) (a4 : Int32)  (σ1 : St) (h : c_X3_box σ a0 a1 a2 a3 a4 = some (.error "java/lang/IllegalArgumentException", σ1)) : WCtr l yL_box cL_box 10 [(0, 16, 19, 20), (0, 16, 23, 13)] 8 149 E base [.ref (E.2.2 0), .int a0, .int a1, .long a2, .long a3, .int a4, .ref (E.2.2 28)] σ 2 (mgO σ1 σ) := by
  refine ofWW 1 (by decide +kernel) rfl hE hnt (Nat.le_of_ble_eq_true rfl) rfl (fun M hT hN K => ?_)
  refine v_aload8 (pc := 0) K dL_box_0 ?_
  refine v_ic0 (pc := 2) K dL_box_2 ?_
  refine v_aload0 (pc := 3) K dL_box_3 ?_
  refine v_iload1 (pc := 4) K dL_box_4 ?_
  refine v_iload2 (pc := 5) K dL_box_5 ?_
  refine v_lload3 (pc := 6) K dL_box_6 ?_
  refine v_lload5 (pc := 7) K dL_box_7 ?_
  refine v_iload7 (pc := 9) K dL_box_9 ?_
  refine w_c5E (pc := 11) K ca_yX3_box ml_RL_147 rfl (t_X3_box _ K.nt (AdrOC K.ad) σ a0 a1 a2 a3 a4 (.error "java/lang/IllegalArgumentException") σ1 h) (Nat.le_of_ble_eq_true rfl) (by decide) (by decide) dL_box_11 (fun H1 locs1 ls ce q hP hS hl hce hcv hcl => ?_)
  refine w_catch (pre := [⟨0, 16, 19, 20⟩]) (x := ⟨0, 16, 23, 13⟩) (suf := []) K hN (hT.trans rfl) (fun z hz => by rw [List.mem_singleton.mp hz]; exact ⟨by decide, "java/lang/IndexOutOfBoundsException", kl_20, by decide +kernel⟩) (by decide) (by decide) kl_13 (by decide +kernel) hP hS hl hce hcv hcl ?_
  have K := w_up K
  refine v_astore9 (pc := 23) K dL_box_23 rfl (Nat.le_of_ble_eq_true rfl) ?_
  refine v_ic2 (pc := 25) K dL_box_25 ?_
  exact v_wret (pc := 26) K dL_box_26 rfl (by decide) (by decide)
set_option maxRecDepth 100000 in
theorem tw_add_ok (l : Launch) (hnt : l.stackTraces = false) {E : Ev} {base : Nat} (hE : Adr YO E base) (σ : St) (a0 : Int32) (a1 : Int64) (a2 : Int32) (v : Int32) (σ1 : St) (h : c_X3_add σ a0 a1 a2 = some (.ok v, σ1)) : WCtr l yL_add cL_add 7 [(0, 13, 16, 20), (0, 13, 20, 29)] 9 171 E base [.ref (E.2.2 0), .int a0, .long a1, .int a2, .ref (E.2.2 28)] σ 0 (sL (mgO σ1 σ) 28 0 v.toInt64) := by
  refine ofWW 1 (by decide +kernel) rfl hE hnt (Nat.le_of_ble_eq_true rfl) rfl (fun M hT hN K => ?_)
  refine v_aload5 (pc := 0) K dL_add_0 ?_
  refine v_ic0 (pc := 2) K dL_add_2 ?_
  refine v_aload0 (pc := 3) K dL_add_3 ?_
  refine v_iload1 (pc := 4) K dL_add_4 ?_
  refine v_lload2 (pc := 5) K dL_add_5 ?_
  refine v_iload4 (pc := 6) K dL_add_6 ?_
  refine w_c3I (pc := 8) K ca_yX3_add ml_RL_151 rfl (t_X3_add _ K.nt (AdrOC K.ad) σ a0 a1 a2 (.ok v) σ1 h) (Nat.le_of_ble_eq_true rfl) (by decide) (by decide) dL_add_8 ?_
  refine v_i2l (pc := 11) K dL_add_11 ?_
  refine v_lastore (pc := 12) (i := 28) (n := 1) K dL_add_12 (Nat.le_of_ble_eq_true rfl) rfl ix01 ?_
  refine v_goto (pc := 13) (tgt := 24) K dL_add_13 (by decide) ?_
  refine v_ic0 (pc := 24) K dL_add_24 ?_
  exact v_wret (pc := 25) K dL_add_25 rfl (by decide) (by decide)
set_option maxRecDepth 100000 in
theorem tw_add_e1 (l : Launch) (hnt : l.stackTraces = false) {E : Ev} {base : Nat} (hE : Adr YO E base) (σ : St) (a0 : Int32) (a1 : Int64) (a2 : Int32)  (σ1 : St) (h : c_X3_add σ a0 a1 a2 = some (.error "java/lang/IndexOutOfBoundsException", σ1)) : WCtr l yL_add cL_add 7 [(0, 13, 16, 20), (0, 13, 20, 29)] 9 171 E base [.ref (E.2.2 0), .int a0, .long a1, .int a2, .ref (E.2.2 28)] σ 1 (mgO σ1 σ) := by
  refine ofWW 1 (by decide +kernel) rfl hE hnt (Nat.le_of_ble_eq_true rfl) rfl (fun M hT hN K => ?_)
  refine v_aload5 (pc := 0) K dL_add_0 ?_
  refine v_ic0 (pc := 2) K dL_add_2 ?_
  refine v_aload0 (pc := 3) K dL_add_3 ?_
  refine v_iload1 (pc := 4) K dL_add_4 ?_
  refine v_lload2 (pc := 5) K dL_add_5 ?_
  refine v_iload4 (pc := 6) K dL_add_6 ?_
  refine w_c3E (pc := 8) K ca_yX3_add ml_RL_151 rfl (t_X3_add _ K.nt (AdrOC K.ad) σ a0 a1 a2 (.error "java/lang/IndexOutOfBoundsException") σ1 h) (Nat.le_of_ble_eq_true rfl) (by decide) (by decide) dL_add_8 (fun H1 locs1 ls ce q hP hS hl hce hcv hcl => ?_)
  refine w_catch (pre := []) (x := ⟨0, 13, 16, 20⟩) (suf := [⟨0, 13, 20, 29⟩]) K hN (hT.trans rfl) (fun z hz => nomatch hz) (by decide) (by decide) kl_20 (by decide +kernel) hP hS hl hce hcv hcl ?_
  have K := w_up K
  refine v_astore6 (pc := 16) K dL_add_16 rfl (Nat.le_of_ble_eq_true rfl) ?_
  refine v_ic1 (pc := 18) K dL_add_18 ?_
  exact v_wret (pc := 19) K dL_add_19 rfl (by decide) (by decide)
set_option maxRecDepth 100000 in
theorem tw_add_e2 (l : Launch) (hnt : l.stackTraces = false) {E : Ev} {base : Nat} (hE : Adr YO E base) (σ : St) (a0 : Int32) (a1 : Int64) (a2 : Int32)  (σ1 : St) (h : c_X3_add σ a0 a1 a2 = some (.error "java/lang/ArithmeticException", σ1)) : WCtr l yL_add cL_add 7 [(0, 13, 16, 20), (0, 13, 20, 29)] 9 171 E base [.ref (E.2.2 0), .int a0, .long a1, .int a2, .ref (E.2.2 28)] σ 2 (mgO σ1 σ) := by
  refine ofWW 1 (by decide +kernel) rfl hE hnt (Nat.le_of_ble_eq_true rfl) rfl (fun M hT hN K => ?_)
  refine v_aload5 (pc := 0) K dL_add_0 ?_
  refine v_ic0 (pc := 2) K dL_add_2 ?_
  refine v_aload0 (pc := 3) K dL_add_3 ?_
  refine v_iload1 (pc := 4) K dL_add_4 ?_
  refine v_lload2 (pc := 5) K dL_add_5 ?_
  refine v_iload4 (pc := 6) K dL_add_6 ?_
  refine w_c3E (pc := 8) K ca_yX3_add ml_RL_151 rfl (t_X3_add _ K.nt (AdrOC K.ad) σ a0 a1 a2 (.error "java/lang/ArithmeticException") σ1 h) (Nat.le_of_ble_eq_true rfl) (by decide) (by decide) dL_add_8 (fun H1 locs1 ls ce q hP hS hl hce hcv hcl => ?_)
  refine w_catch (pre := [⟨0, 13, 16, 20⟩]) (x := ⟨0, 13, 20, 29⟩) (suf := []) K hN (hT.trans rfl) (fun z hz => by rw [List.mem_singleton.mp hz]; exact ⟨by decide, "java/lang/IndexOutOfBoundsException", kl_20, by decide +kernel⟩) (by decide) (by decide) kl_29 (by decide +kernel) hP hS hl hce hcv hcl ?_
  have K := w_up K
  refine v_astore6 (pc := 20) K dL_add_20 rfl (Nat.le_of_ble_eq_true rfl) ?_
  refine v_ic2 (pc := 22) K dL_add_22 ?_
  exact v_wret (pc := 23) K dL_add_23 rfl (by decide) (by decide)
set_option maxRecDepth 100000 in
theorem tw_plus_ok (l : Launch) (hnt : l.stackTraces = false) {E : Ev} {base : Nat} (hE : Adr YO E base) (σ : St) (a0 : Int32) (a1 : Int32) (a2 : Int32) (a3 : Int32) (v : Int32) (σ1 : St) (h : c_X3_plus σ a0 a1 a2 a3 = some (.ok v, σ1)) : WCtr l yL_plus cL_plus 7 [(0, 14, 17, 20), (0, 14, 21, 29)] 9 173 E base [.ref (E.2.2 0), .int a0, .int a1, .int a2, .int a3, .ref (E.2.2 28)] σ 0 (sL (mgO σ1 σ) 28 0 v.toInt64) := by
  refine ofWW 1 (by decide +kernel) rfl hE hnt (Nat.le_of_ble_eq_true rfl) rfl (fun M hT hN K => ?_)
  refine v_aload5 (pc := 0) K dL_plus_0 ?_
  refine v_ic0 (pc := 2) K dL_plus_2 ?_
  refine v_aload0 (pc := 3) K dL_plus_3 ?_
  refine v_iload1 (pc := 4) K dL_plus_4 ?_
  refine v_iload2 (pc := 5) K dL_plus_5 ?_
  refine v_iload3 (pc := 6) K dL_plus_6 ?_
  refine v_iload4 (pc := 7) K dL_plus_7 ?_
  refine w_c4I (pc := 9) K ca_yX3_plus ml_RL_155 rfl (t_X3_plus _ K.nt (AdrOC K.ad) σ a0 a1 a2 a3 (.ok v) σ1 h) (Nat.le_of_ble_eq_true rfl) (by decide) (by decide) dL_plus_9 ?_
  refine v_i2l (pc := 12) K dL_plus_12 ?_
  refine v_lastore (pc := 13) (i := 28) (n := 1) K dL_plus_13 (Nat.le_of_ble_eq_true rfl) rfl ix01 ?_
  refine v_goto (pc := 14) (tgt := 25) K dL_plus_14 (by decide) ?_
  refine v_ic0 (pc := 25) K dL_plus_25 ?_
  exact v_wret (pc := 26) K dL_plus_26 rfl (by decide) (by decide)
set_option maxRecDepth 100000 in
theorem tw_plus_e1 (l : Launch) (hnt : l.stackTraces = false) {E : Ev} {base : Nat} (hE : Adr YO E base) (σ : St) (a0 : Int32) (a1 : Int32) (a2 : Int32) (a3 : Int32)  (σ1 : St) (h : c_X3_plus σ a0 a1 a2 a3 = some (.error "java/lang/IndexOutOfBoundsException", σ1)) : WCtr l yL_plus cL_plus 7 [(0, 14, 17, 20), (0, 14, 21, 29)] 9 173 E base [.ref (E.2.2 0), .int a0, .int a1, .int a2, .int a3, .ref (E.2.2 28)] σ 1 (mgO σ1 σ) := by
  refine ofWW 1 (by decide +kernel) rfl hE hnt (Nat.le_of_ble_eq_true rfl) rfl (fun M hT hN K => ?_)
  refine v_aload5 (pc := 0) K dL_plus_0 ?_
  refine v_ic0 (pc := 2) K dL_plus_2 ?_
  refine v_aload0 (pc := 3) K dL_plus_3 ?_
  refine v_iload1 (pc := 4) K dL_plus_4 ?_
  refine v_iload2 (pc := 5) K dL_plus_5 ?_
  refine v_iload3 (pc := 6) K dL_plus_6 ?_
  refine v_iload4 (pc := 7) K dL_plus_7 ?_
  refine w_c4E (pc := 9) K ca_yX3_plus ml_RL_155 rfl (t_X3_plus _ K.nt (AdrOC K.ad) σ a0 a1 a2 a3 (.error "java/lang/IndexOutOfBoundsException") σ1 h) (Nat.le_of_ble_eq_true rfl) (by decide) (by decide) dL_plus_9 (fun H1 locs1 ls ce q hP hS hl hce hcv hcl => ?_)
  refine w_catch (pre := []) (x := ⟨0, 14, 17, 20⟩) (suf := [⟨0, 14, 21, 29⟩]) K hN (hT.trans rfl) (fun z hz => nomatch hz) (by decide) (by decide) kl_20 (by decide +kernel) hP hS hl hce hcv hcl ?_
  have K := w_up K
  refine v_astore6 (pc := 17) K dL_plus_17 rfl (Nat.le_of_ble_eq_true rfl) ?_
  refine v_ic1 (pc := 19) K dL_plus_19 ?_
  exact v_wret (pc := 20) K dL_plus_20 rfl (by decide) (by decide)
set_option maxRecDepth 100000 in
theorem tw_plus_e2 (l : Launch) (hnt : l.stackTraces = false) {E : Ev} {base : Nat} (hE : Adr YO E base) (σ : St) (a0 : Int32) (a1 : Int32) (a2 : Int32) (a3 : Int32)  (σ1 : St) (h : c_X3_plus σ a0 a1 a2 a3 = some (.error "java/lang/ArithmeticException", σ1)) : WCtr l yL_plus cL_plus 7 [(0, 14, 17, 20), (0, 14, 21, 29)] 9 173 E base [.ref (E.2.2 0), .int a0, .int a1, .int a2, .int a3, .ref (E.2.2 28)] σ 2 (mgO σ1 σ) := by
  refine ofWW 1 (by decide +kernel) rfl hE hnt (Nat.le_of_ble_eq_true rfl) rfl (fun M hT hN K => ?_)
  refine v_aload5 (pc := 0) K dL_plus_0 ?_
  refine v_ic0 (pc := 2) K dL_plus_2 ?_
  refine v_aload0 (pc := 3) K dL_plus_3 ?_
  refine v_iload1 (pc := 4) K dL_plus_4 ?_
  refine v_iload2 (pc := 5) K dL_plus_5 ?_
  refine v_iload3 (pc := 6) K dL_plus_6 ?_
  refine v_iload4 (pc := 7) K dL_plus_7 ?_
  refine w_c4E (pc := 9) K ca_yX3_plus ml_RL_155 rfl (t_X3_plus _ K.nt (AdrOC K.ad) σ a0 a1 a2 a3 (.error "java/lang/ArithmeticException") σ1 h) (Nat.le_of_ble_eq_true rfl) (by decide) (by decide) dL_plus_9 (fun H1 locs1 ls ce q hP hS hl hce hcv hcl => ?_)
  refine w_catch (pre := [⟨0, 14, 17, 20⟩]) (x := ⟨0, 14, 21, 29⟩) (suf := []) K hN (hT.trans rfl) (fun z hz => by rw [List.mem_singleton.mp hz]; exact ⟨by decide, "java/lang/IndexOutOfBoundsException", kl_20, by decide +kernel⟩) (by decide) (by decide) kl_29 (by decide +kernel) hP hS hl hce hcv hcl ?_
  have K := w_up K
  refine v_astore6 (pc := 21) K dL_plus_21 rfl (Nat.le_of_ble_eq_true rfl) ?_
  refine v_ic2 (pc := 23) K dL_plus_23 ?_
  exact v_wret (pc := 24) K dL_plus_24 rfl (by decide) (by decide)
set_option maxRecDepth 100000 in
theorem tw_scale_ok (l : Launch) (hnt : l.stackTraces = false) {E : Ev} {base : Nat} (hE : Adr YO E base) (σ : St) (a0 : Int32) (a1 : Int32) (a2 : Int32) (v : Int32) (σ1 : St) (h : c_X3_scale σ a0 a1 a2 = some (.ok v, σ1)) : WCtr l yL_scale cL_scale 6 [(0, 12, 15, 20), (0, 12, 19, 13), (0, 12, 23, 29)] 9 170 E base [.ref (E.2.2 0), .int a0, .int a1, .int a2, .ref (E.2.2 28)] σ 0 (sL (mgO σ1 σ) 28 0 v.toInt64) := by
  refine ofWW 1 (by decide +kernel) rfl hE hnt (Nat.le_of_ble_eq_true rfl) rfl (fun M hT hN K => ?_)
  refine v_aload4 (pc := 0) K dL_scale_0 ?_
  refine v_ic0 (pc := 2) K dL_scale_2 ?_
  refine v_aload0 (pc := 3) K dL_scale_3 ?_
  refine v_iload1 (pc := 4) K dL_scale_4 ?_
  refine v_iload2 (pc := 5) K dL_scale_5 ?_
  refine v_iload3 (pc := 6) K dL_scale_6 ?_
  refine w_c3I (pc := 7) K ca_yX3_scale ml_RL_159 rfl (t_X3_scale _ K.nt (AdrOC K.ad) σ a0 a1 a2 (.ok v) σ1 h) (Nat.le_of_ble_eq_true rfl) (by decide) (by decide) dL_scale_7 ?_
  refine v_i2l (pc := 10) K dL_scale_10 ?_
  refine v_lastore (pc := 11) (i := 28) (n := 1) K dL_scale_11 (Nat.le_of_ble_eq_true rfl) rfl ix01 ?_
  refine v_goto (pc := 12) (tgt := 27) K dL_scale_12 (by decide) ?_
  refine v_ic0 (pc := 27) K dL_scale_27 ?_
  exact v_wret (pc := 28) K dL_scale_28 rfl (by decide) (by decide)
set_option maxRecDepth 100000 in
theorem tw_scale_e1 (l : Launch) (hnt : l.stackTraces = false) {E : Ev} {base : Nat} (hE : Adr YO E base) (σ : St) (a0 : Int32) (a1 : Int32) (a2 : Int32)  (σ1 : St) (h : c_X3_scale σ a0 a1 a2 = some (.error "java/lang/IndexOutOfBoundsException", σ1)) : WCtr l yL_scale cL_scale 6 [(0, 12, 15, 20), (0, 12, 19, 13), (0, 12, 23, 29)] 9 170 E base [.ref (E.2.2 0), .int a0, .int a1, .int a2, .ref (E.2.2 28)] σ 1 (mgO σ1 σ) := by
  refine ofWW 1 (by decide +kernel) rfl hE hnt (Nat.le_of_ble_eq_true rfl) rfl (fun M hT hN K => ?_)
  refine v_aload4 (pc := 0) K dL_scale_0 ?_
  refine v_ic0 (pc := 2) K dL_scale_2 ?_
  refine v_aload0 (pc := 3) K dL_scale_3 ?_
  refine v_iload1 (pc := 4) K dL_scale_4 ?_
  refine v_iload2 (pc := 5) K dL_scale_5 ?_
  refine v_iload3 (pc := 6) K dL_scale_6 ?_
  refine w_c3E (pc := 7) K ca_yX3_scale ml_RL_159 rfl (t_X3_scale _ K.nt (AdrOC K.ad) σ a0 a1 a2 (.error "java/lang/IndexOutOfBoundsException") σ1 h) (Nat.le_of_ble_eq_true rfl) (by decide) (by decide) dL_scale_7 (fun H1 locs1 ls ce q hP hS hl hce hcv hcl => ?_)
  refine w_catch (pre := []) (x := ⟨0, 12, 15, 20⟩) (suf := [⟨0, 12, 19, 13⟩, ⟨0, 12, 23, 29⟩]) K hN (hT.trans rfl) (fun z hz => nomatch hz) (by decide) (by decide) kl_20 (by decide +kernel) hP hS hl hce hcv hcl ?_
  have K := w_up K
  refine v_astore5 (pc := 15) K dL_scale_15 rfl (Nat.le_of_ble_eq_true rfl) ?_
  refine v_ic1 (pc := 17) K dL_scale_17 ?_
  exact v_wret (pc := 18) K dL_scale_18 rfl (by decide) (by decide)
set_option maxRecDepth 100000 in
theorem tw_scale_e2 (l : Launch) (hnt : l.stackTraces = false) {E : Ev} {base : Nat} (hE : Adr YO E base) (σ : St) (a0 : Int32) (a1 : Int32) (a2 : Int32)  (σ1 : St) (h : c_X3_scale σ a0 a1 a2 = some (.error "java/lang/IllegalArgumentException", σ1)) : WCtr l yL_scale cL_scale 6 [(0, 12, 15, 20), (0, 12, 19, 13), (0, 12, 23, 29)] 9 170 E base [.ref (E.2.2 0), .int a0, .int a1, .int a2, .ref (E.2.2 28)] σ 2 (mgO σ1 σ) := by
  refine ofWW 1 (by decide +kernel) rfl hE hnt (Nat.le_of_ble_eq_true rfl) rfl (fun M hT hN K => ?_)
  refine v_aload4 (pc := 0) K dL_scale_0 ?_
  refine v_ic0 (pc := 2) K dL_scale_2 ?_
  refine v_aload0 (pc := 3) K dL_scale_3 ?_
  refine v_iload1 (pc := 4) K dL_scale_4 ?_
  refine v_iload2 (pc := 5) K dL_scale_5 ?_
  refine v_iload3 (pc := 6) K dL_scale_6 ?_
  refine w_c3E (pc := 7) K ca_yX3_scale ml_RL_159 rfl (t_X3_scale _ K.nt (AdrOC K.ad) σ a0 a1 a2 (.error "java/lang/IllegalArgumentException") σ1 h) (Nat.le_of_ble_eq_true rfl) (by decide) (by decide) dL_scale_7 (fun H1 locs1 ls ce q hP hS hl hce hcv hcl => ?_)
  refine w_catch (pre := [⟨0, 12, 15, 20⟩]) (x := ⟨0, 12, 19, 13⟩) (suf := [⟨0, 12, 23, 29⟩]) K hN (hT.trans rfl) (fun z hz => by rw [List.mem_singleton.mp hz]; exact ⟨by decide, "java/lang/IndexOutOfBoundsException", kl_20, by decide +kernel⟩) (by decide) (by decide) kl_13 (by decide +kernel) hP hS hl hce hcv hcl ?_
  have K := w_up K
  refine v_astore5 (pc := 19) K dL_scale_19 rfl (Nat.le_of_ble_eq_true rfl) ?_
  refine v_ic2 (pc := 21) K dL_scale_21 ?_
  exact v_wret (pc := 22) K dL_scale_22 rfl (by decide) (by decide)
set_option maxRecDepth 100000 in
theorem tw_scale_e3 (l : Launch) (hnt : l.stackTraces = false) {E : Ev} {base : Nat} (hE : Adr YO E base) (σ : St) (a0 : Int32) (a1 : Int32) (a2 : Int32)  (σ1 : St) (h : c_X3_scale σ a0 a1 a2 = some (.error "java/lang/ArithmeticException", σ1)) : WCtr l yL_scale cL_scale 6 [(0, 12, 15, 20), (0, 12, 19, 13), (0, 12, 23, 29)] 9 170 E base [.ref (E.2.2 0), .int a0, .int a1, .int a2, .ref (E.2.2 28)] σ 3 (mgO σ1 σ) := by
  refine ofWW 1 (by decide +kernel) rfl hE hnt (Nat.le_of_ble_eq_true rfl) rfl (fun M hT hN K => ?_)
  refine v_aload4 (pc := 0) K dL_scale_0 ?_
  refine v_ic0 (pc := 2) K dL_scale_2 ?_
  refine v_aload0 (pc := 3) K dL_scale_3 ?_
  refine v_iload1 (pc := 4) K dL_scale_4 ?_
  refine v_iload2 (pc := 5) K dL_scale_5 ?_
  refine v_iload3 (pc := 6) K dL_scale_6 ?_
  refine w_c3E (pc := 7) K ca_yX3_scale ml_RL_159 rfl (t_X3_scale _ K.nt (AdrOC K.ad) σ a0 a1 a2 (.error "java/lang/ArithmeticException") σ1 h) (Nat.le_of_ble_eq_true rfl) (by decide) (by decide) dL_scale_7 (fun H1 locs1 ls ce q hP hS hl hce hcv hcl => ?_)
  refine w_catch (pre := [⟨0, 12, 15, 20⟩, ⟨0, 12, 19, 13⟩]) (x := ⟨0, 12, 23, 29⟩) (suf := []) K hN (hT.trans rfl) (fun z hz => (List.mem_cons.mp hz).elim (fun e => by rw [e]; exact ⟨by decide, "java/lang/IndexOutOfBoundsException", kl_20, by decide +kernel⟩) (fun e => by rw [List.mem_singleton.mp e]; exact ⟨by decide, "java/lang/IllegalArgumentException", kl_13, by decide +kernel⟩)) (by decide) (by decide) kl_29 (by decide +kernel) hP hS hl hce hcv hcl ?_
  have K := w_up K
  refine v_astore5 (pc := 23) K dL_scale_23 rfl (Nat.le_of_ble_eq_true rfl) ?_
  refine v_ic3 (pc := 25) K dL_scale_25 ?_
  exact v_wret (pc := 26) K dL_scale_26 rfl (by decide) (by decide)
set_option maxRecDepth 100000 in
theorem tw_shift_ok (l : Launch) (hnt : l.stackTraces = false) {E : Ev} {base : Nat} (hE : Adr YO E base) (σ : St) (a0 : Int32) (a1 : Int32) (a2 : Int32) (v : Int32) (σ1 : St) (h : c_X3_shift σ a0 a1 a2 = some (.ok v, σ1)) : WCtr l yL_shift cL_shift 6 [(0, 12, 15, 20), (0, 12, 19, 13), (0, 12, 23, 29)] 9 170 E base [.ref (E.2.2 0), .int a0, .int a1, .int a2, .ref (E.2.2 28)] σ 0 (sL (mgO σ1 σ) 28 0 v.toInt64) := by
  refine ofWW 1 (by decide +kernel) rfl hE hnt (Nat.le_of_ble_eq_true rfl) rfl (fun M hT hN K => ?_)
  refine v_aload4 (pc := 0) K dL_shift_0 ?_
  refine v_ic0 (pc := 2) K dL_shift_2 ?_
  refine v_aload0 (pc := 3) K dL_shift_3 ?_
  refine v_iload1 (pc := 4) K dL_shift_4 ?_
  refine v_iload2 (pc := 5) K dL_shift_5 ?_
  refine v_iload3 (pc := 6) K dL_shift_6 ?_
  refine w_c3I (pc := 7) K ca_yX3_shift ml_RL_162 rfl (t_X3_shift _ K.nt (AdrOC K.ad) σ a0 a1 a2 (.ok v) σ1 h) (Nat.le_of_ble_eq_true rfl) (by decide) (by decide) dL_shift_7 ?_
  refine v_i2l (pc := 10) K dL_shift_10 ?_
  refine v_lastore (pc := 11) (i := 28) (n := 1) K dL_shift_11 (Nat.le_of_ble_eq_true rfl) rfl ix01 ?_
  refine v_goto (pc := 12) (tgt := 27) K dL_shift_12 (by decide) ?_
  refine v_ic0 (pc := 27) K dL_shift_27 ?_
  exact v_wret (pc := 28) K dL_shift_28 rfl (by decide) (by decide)
set_option maxRecDepth 100000 in
theorem tw_shift_e1 (l : Launch) (hnt : l.stackTraces = false) {E : Ev} {base : Nat} (hE : Adr YO E base) (σ : St) (a0 : Int32) (a1 : Int32) (a2 : Int32)  (σ1 : St) (h : c_X3_shift σ a0 a1 a2 = some (.error "java/lang/IndexOutOfBoundsException", σ1)) : WCtr l yL_shift cL_shift 6 [(0, 12, 15, 20), (0, 12, 19, 13), (0, 12, 23, 29)] 9 170 E base [.ref (E.2.2 0), .int a0, .int a1, .int a2, .ref (E.2.2 28)] σ 1 (mgO σ1 σ) := by
  refine ofWW 1 (by decide +kernel) rfl hE hnt (Nat.le_of_ble_eq_true rfl) rfl (fun M hT hN K => ?_)
  refine v_aload4 (pc := 0) K dL_shift_0 ?_
  refine v_ic0 (pc := 2) K dL_shift_2 ?_
  refine v_aload0 (pc := 3) K dL_shift_3 ?_
  refine v_iload1 (pc := 4) K dL_shift_4 ?_
  refine v_iload2 (pc := 5) K dL_shift_5 ?_
  refine v_iload3 (pc := 6) K dL_shift_6 ?_
  refine w_c3E (pc := 7) K ca_yX3_shift ml_RL_162 rfl (t_X3_shift _ K.nt (AdrOC K.ad) σ a0 a1 a2 (.error "java/lang/IndexOutOfBoundsException") σ1 h) (Nat.le_of_ble_eq_true rfl) (by decide) (by decide) dL_shift_7 (fun H1 locs1 ls ce q hP hS hl hce hcv hcl => ?_)
  refine w_catch (pre := []) (x := ⟨0, 12, 15, 20⟩) (suf := [⟨0, 12, 19, 13⟩, ⟨0, 12, 23, 29⟩]) K hN (hT.trans rfl) (fun z hz => nomatch hz) (by decide) (by decide) kl_20 (by decide +kernel) hP hS hl hce hcv hcl ?_
  have K := w_up K
  refine v_astore5 (pc := 15) K dL_shift_15 rfl (Nat.le_of_ble_eq_true rfl) ?_
  refine v_ic1 (pc := 17) K dL_shift_17 ?_
  exact v_wret (pc := 18) K dL_shift_18 rfl (by decide) (by decide)
set_option maxRecDepth 100000 in
theorem tw_shift_e2 (l : Launch) (hnt : l.stackTraces = false) {E : Ev} {base : Nat} (hE : Adr YO E base) (σ : St) (a0 : Int32) (a1 : Int32) (a2 : Int32)  (σ1 : St) (h : c_X3_shift σ a0 a1 a2 = some (.error "java/lang/IllegalArgumentException", σ1)) : WCtr l yL_shift cL_shift 6 [(0, 12, 15, 20), (0, 12, 19, 13), (0, 12, 23, 29)] 9 170 E base [.ref (E.2.2 0), .int a0, .int a1, .int a2, .ref (E.2.2 28)] σ 2 (mgO σ1 σ) := by
  refine ofWW 1 (by decide +kernel) rfl hE hnt (Nat.le_of_ble_eq_true rfl) rfl (fun M hT hN K => ?_)
  refine v_aload4 (pc := 0) K dL_shift_0 ?_
  refine v_ic0 (pc := 2) K dL_shift_2 ?_
  refine v_aload0 (pc := 3) K dL_shift_3 ?_
  refine v_iload1 (pc := 4) K dL_shift_4 ?_
  refine v_iload2 (pc := 5) K dL_shift_5 ?_
  refine v_iload3 (pc := 6) K dL_shift_6 ?_
  refine w_c3E (pc := 7) K ca_yX3_shift ml_RL_162 rfl (t_X3_shift _ K.nt (AdrOC K.ad) σ a0 a1 a2 (.error "java/lang/IllegalArgumentException") σ1 h) (Nat.le_of_ble_eq_true rfl) (by decide) (by decide) dL_shift_7 (fun H1 locs1 ls ce q hP hS hl hce hcv hcl => ?_)
  refine w_catch (pre := [⟨0, 12, 15, 20⟩]) (x := ⟨0, 12, 19, 13⟩) (suf := [⟨0, 12, 23, 29⟩]) K hN (hT.trans rfl) (fun z hz => by rw [List.mem_singleton.mp hz]; exact ⟨by decide, "java/lang/IndexOutOfBoundsException", kl_20, by decide +kernel⟩) (by decide) (by decide) kl_13 (by decide +kernel) hP hS hl hce hcv hcl ?_
  have K := w_up K
  refine v_astore5 (pc := 19) K dL_shift_19 rfl (Nat.le_of_ble_eq_true rfl) ?_
  refine v_ic2 (pc := 21) K dL_shift_21 ?_
  exact v_wret (pc := 22) K dL_shift_22 rfl (by decide) (by decide)
set_option maxRecDepth 100000 in
theorem tw_shift_e3 (l : Launch) (hnt : l.stackTraces = false) {E : Ev} {base : Nat} (hE : Adr YO E base) (σ : St) (a0 : Int32) (a1 : Int32) (a2 : Int32)  (σ1 : St) (h : c_X3_shift σ a0 a1 a2 = some (.error "java/lang/ArithmeticException", σ1)) : WCtr l yL_shift cL_shift 6 [(0, 12, 15, 20), (0, 12, 19, 13), (0, 12, 23, 29)] 9 170 E base [.ref (E.2.2 0), .int a0, .int a1, .int a2, .ref (E.2.2 28)] σ 3 (mgO σ1 σ) := by
  refine ofWW 1 (by decide +kernel) rfl hE hnt (Nat.le_of_ble_eq_true rfl) rfl (fun M hT hN K => ?_)
  refine v_aload4 (pc := 0) K dL_shift_0 ?_
  refine v_ic0 (pc := 2) K dL_shift_2 ?_
  refine v_aload0 (pc := 3) K dL_shift_3 ?_
  refine v_iload1 (pc := 4) K dL_shift_4 ?_
  refine v_iload2 (pc := 5) K dL_shift_5 ?_
  refine v_iload3 (pc := 6) K dL_shift_6 ?_
  refine w_c3E (pc := 7) K ca_yX3_shift ml_RL_162 rfl (t_X3_shift _ K.nt (AdrOC K.ad) σ a0 a1 a2 (.error "java/lang/ArithmeticException") σ1 h) (Nat.le_of_ble_eq_true rfl) (by decide) (by decide) dL_shift_7 (fun H1 locs1 ls ce q hP hS hl hce hcv hcl => ?_)
  refine w_catch (pre := [⟨0, 12, 15, 20⟩, ⟨0, 12, 19, 13⟩]) (x := ⟨0, 12, 23, 29⟩) (suf := []) K hN (hT.trans rfl) (fun z hz => (List.mem_cons.mp hz).elim (fun e => by rw [e]; exact ⟨by decide, "java/lang/IndexOutOfBoundsException", kl_20, by decide +kernel⟩) (fun e => by rw [List.mem_singleton.mp e]; exact ⟨by decide, "java/lang/IllegalArgumentException", kl_13, by decide +kernel⟩)) (by decide) (by decide) kl_29 (by decide +kernel) hP hS hl hce hcv hcl ?_
  have K := w_up K
  refine v_astore5 (pc := 23) K dL_shift_23 rfl (Nat.le_of_ble_eq_true rfl) ?_
  refine v_ic3 (pc := 25) K dL_shift_25 ?_
  exact v_wret (pc := 26) K dL_shift_26 rfl (by decide) (by decide)
set_option maxRecDepth 100000 in
theorem tw_hold_ok (l : Launch) (hnt : l.stackTraces = false) {E : Ev} {base : Nat} (hE : Adr YO E base) (σ : St) (a0 : Int32) (a1 : Int64) (a2 : Int64) (a3 : Int32) (v : Int32) (σ1 : St) (h : c_X3_hold σ a0 a1 a2 a3 = some (.ok v, σ1)) : WCtr l yL_hold cL_hold 9 [(0, 15, 18, 20), (0, 15, 22, 13), (0, 15, 26, 29)] 9 172 E base [.ref (E.2.2 0), .int a0, .long a1, .long a2, .int a3, .ref (E.2.2 28)] σ 0 (sL (mgO σ1 σ) 28 0 v.toInt64) := by
  refine ofWW 1 (by decide +kernel) rfl hE hnt (Nat.le_of_ble_eq_true rfl) rfl (fun M hT hN K => ?_)
  refine v_aload7 (pc := 0) K dL_hold_0 ?_
  refine v_ic0 (pc := 2) K dL_hold_2 ?_
  refine v_aload0 (pc := 3) K dL_hold_3 ?_
  refine v_iload1 (pc := 4) K dL_hold_4 ?_
  refine v_lload2 (pc := 5) K dL_hold_5 ?_
  refine v_lload4 (pc := 6) K dL_hold_6 ?_
  refine v_iload6 (pc := 8) K dL_hold_8 ?_
  refine w_c4I (pc := 10) K ca_yX3_hold ml_RL_165 rfl (t_X3_hold _ K.nt (AdrOC K.ad) σ a0 a1 a2 a3 (.ok v) σ1 h) (Nat.le_of_ble_eq_true rfl) (by decide) (by decide) dL_hold_10 ?_
  refine v_i2l (pc := 13) K dL_hold_13 ?_
  refine v_lastore (pc := 14) (i := 28) (n := 1) K dL_hold_14 (Nat.le_of_ble_eq_true rfl) rfl ix01 ?_
  refine v_goto (pc := 15) (tgt := 30) K dL_hold_15 (by decide) ?_
  refine v_ic0 (pc := 30) K dL_hold_30 ?_
  exact v_wret (pc := 31) K dL_hold_31 rfl (by decide) (by decide)
set_option maxRecDepth 100000 in
theorem tw_hold_e1 (l : Launch) (hnt : l.stackTraces = false) {E : Ev} {base : Nat} (hE : Adr YO E base) (σ : St) (a0 : Int32) (a1 : Int64) (a2 : Int64) (a3 : Int32)  (σ1 : St) (h : c_X3_hold σ a0 a1 a2 a3 = some (.error "java/lang/IndexOutOfBoundsException", σ1)) : WCtr l yL_hold cL_hold 9 [(0, 15, 18, 20), (0, 15, 22, 13), (0, 15, 26, 29)] 9 172 E base [.ref (E.2.2 0), .int a0, .long a1, .long a2, .int a3, .ref (E.2.2 28)] σ 1 (mgO σ1 σ) := by
  refine ofWW 1 (by decide +kernel) rfl hE hnt (Nat.le_of_ble_eq_true rfl) rfl (fun M hT hN K => ?_)
  refine v_aload7 (pc := 0) K dL_hold_0 ?_
  refine v_ic0 (pc := 2) K dL_hold_2 ?_
  refine v_aload0 (pc := 3) K dL_hold_3 ?_
  refine v_iload1 (pc := 4) K dL_hold_4 ?_
  refine v_lload2 (pc := 5) K dL_hold_5 ?_
  refine v_lload4 (pc := 6) K dL_hold_6 ?_
  refine v_iload6 (pc := 8) K dL_hold_8 ?_
  refine w_c4E (pc := 10) K ca_yX3_hold ml_RL_165 rfl (t_X3_hold _ K.nt (AdrOC K.ad) σ a0 a1 a2 a3 (.error "java/lang/IndexOutOfBoundsException") σ1 h) (Nat.le_of_ble_eq_true rfl) (by decide) (by decide) dL_hold_10 (fun H1 locs1 ls ce q hP hS hl hce hcv hcl => ?_)
  refine w_catch (pre := []) (x := ⟨0, 15, 18, 20⟩) (suf := [⟨0, 15, 22, 13⟩, ⟨0, 15, 26, 29⟩]) K hN (hT.trans rfl) (fun z hz => nomatch hz) (by decide) (by decide) kl_20 (by decide +kernel) hP hS hl hce hcv hcl ?_
  have K := w_up K
  refine v_astore8 (pc := 18) K dL_hold_18 rfl (Nat.le_of_ble_eq_true rfl) ?_
  refine v_ic1 (pc := 20) K dL_hold_20 ?_
  exact v_wret (pc := 21) K dL_hold_21 rfl (by decide) (by decide)
set_option maxRecDepth 100000 in
theorem tw_hold_e2 (l : Launch) (hnt : l.stackTraces = false) {E : Ev} {base : Nat} (hE : Adr YO E base) (σ : St) (a0 : Int32) (a1 : Int64) (a2 : Int64) (a3 : Int32)  (σ1 : St) (h : c_X3_hold σ a0 a1 a2 a3 = some (.error "java/lang/IllegalArgumentException", σ1)) : WCtr l yL_hold cL_hold 9 [(0, 15, 18, 20), (0, 15, 22, 13), (0, 15, 26, 29)] 9 172 E base [.ref (E.2.2 0), .int a0, .long a1, .long a2, .int a3, .ref (E.2.2 28)] σ 2 (mgO σ1 σ) := by
  refine ofWW 1 (by decide +kernel) rfl hE hnt (Nat.le_of_ble_eq_true rfl) rfl (fun M hT hN K => ?_)
  refine v_aload7 (pc := 0) K dL_hold_0 ?_
  refine v_ic0 (pc := 2) K dL_hold_2 ?_
  refine v_aload0 (pc := 3) K dL_hold_3 ?_
  refine v_iload1 (pc := 4) K dL_hold_4 ?_
  refine v_lload2 (pc := 5) K dL_hold_5 ?_
  refine v_lload4 (pc := 6) K dL_hold_6 ?_
  refine v_iload6 (pc := 8) K dL_hold_8 ?_
  refine w_c4E (pc := 10) K ca_yX3_hold ml_RL_165 rfl (t_X3_hold _ K.nt (AdrOC K.ad) σ a0 a1 a2 a3 (.error "java/lang/IllegalArgumentException") σ1 h) (Nat.le_of_ble_eq_true rfl) (by decide) (by decide) dL_hold_10 (fun H1 locs1 ls ce q hP hS hl hce hcv hcl => ?_)
  refine w_catch (pre := [⟨0, 15, 18, 20⟩]) (x := ⟨0, 15, 22, 13⟩) (suf := [⟨0, 15, 26, 29⟩]) K hN (hT.trans rfl) (fun z hz => by rw [List.mem_singleton.mp hz]; exact ⟨by decide, "java/lang/IndexOutOfBoundsException", kl_20, by decide +kernel⟩) (by decide) (by decide) kl_13 (by decide +kernel) hP hS hl hce hcv hcl ?_
  have K := w_up K
  refine v_astore8 (pc := 22) K dL_hold_22 rfl (Nat.le_of_ble_eq_true rfl) ?_
  refine v_ic2 (pc := 24) K dL_hold_24 ?_
  exact v_wret (pc := 25) K dL_hold_25 rfl (by decide) (by decide)
set_option maxRecDepth 100000 in
theorem tw_hold_e3 (l : Launch) (hnt : l.stackTraces = false) {E : Ev} {base : Nat} (hE : Adr YO E base) (σ : St) (a0 : Int32) (a1 : Int64) (a2 : Int64) (a3 : Int32)  (σ1 : St) (h : c_X3_hold σ a0 a1 a2 a3 = some (.error "java/lang/ArithmeticException", σ1)) : WCtr l yL_hold cL_hold 9 [(0, 15, 18, 20), (0, 15, 22, 13), (0, 15, 26, 29)] 9 172 E base [.ref (E.2.2 0), .int a0, .long a1, .long a2, .int a3, .ref (E.2.2 28)] σ 3 (mgO σ1 σ) := by
  refine ofWW 1 (by decide +kernel) rfl hE hnt (Nat.le_of_ble_eq_true rfl) rfl (fun M hT hN K => ?_)
  refine v_aload7 (pc := 0) K dL_hold_0 ?_
  refine v_ic0 (pc := 2) K dL_hold_2 ?_
  refine v_aload0 (pc := 3) K dL_hold_3 ?_
  refine v_iload1 (pc := 4) K dL_hold_4 ?_
  refine v_lload2 (pc := 5) K dL_hold_5 ?_
  refine v_lload4 (pc := 6) K dL_hold_6 ?_
  refine v_iload6 (pc := 8) K dL_hold_8 ?_
  refine w_c4E (pc := 10) K ca_yX3_hold ml_RL_165 rfl (t_X3_hold _ K.nt (AdrOC K.ad) σ a0 a1 a2 a3 (.error "java/lang/ArithmeticException") σ1 h) (Nat.le_of_ble_eq_true rfl) (by decide) (by decide) dL_hold_10 (fun H1 locs1 ls ce q hP hS hl hce hcv hcl => ?_)
  refine w_catch (pre := [⟨0, 15, 18, 20⟩, ⟨0, 15, 22, 13⟩]) (x := ⟨0, 15, 26, 29⟩) (suf := []) K hN (hT.trans rfl) (fun z hz => (List.mem_cons.mp hz).elim (fun e => by rw [e]; exact ⟨by decide, "java/lang/IndexOutOfBoundsException", kl_20, by decide +kernel⟩) (fun e => by rw [List.mem_singleton.mp e]; exact ⟨by decide, "java/lang/IllegalArgumentException", kl_13, by decide +kernel⟩)) (by decide) (by decide) kl_29 (by decide +kernel) hP hS hl hce hcv hcl ?_
  have K := w_up K
  refine v_astore8 (pc := 26) K dL_hold_26 rfl (Nat.le_of_ble_eq_true rfl) ?_
  refine v_ic3 (pc := 28) K dL_hold_28 ?_
  exact v_wret (pc := 29) K dL_hold_29 rfl (by decide) (by decide)
set_option maxRecDepth 100000 in
theorem tw_fill_ok (l : Launch) (hnt : l.stackTraces = false) {E : Ev} {base : Nat} (hE : Adr YO E base) (σ : St) (a0 : Int32) (a1 : Int64) (a2 : Int32) (v : Int32) (σ1 : St) (h : c_X3_fill σ a0 a1 a2 = some (.ok v, σ1)) : WCtr l yL_fill cL_fill 7 [(0, 13, 16, 20), (0, 13, 20, 29)] 9 170 E base [.ref (E.2.2 0), .int a0, .long a1, .int a2, .ref (E.2.2 28)] σ 0 (sL (mgO σ1 σ) 28 0 v.toInt64) := by
  refine ofWW 1 (by decide +kernel) rfl hE hnt (Nat.le_of_ble_eq_true rfl) rfl (fun M hT hN K => ?_)
  refine v_aload5 (pc := 0) K dL_fill_0 ?_
  refine v_ic0 (pc := 2) K dL_fill_2 ?_
  refine v_aload0 (pc := 3) K dL_fill_3 ?_
  refine v_iload1 (pc := 4) K dL_fill_4 ?_
  refine v_lload2 (pc := 5) K dL_fill_5 ?_
  refine v_iload4 (pc := 6) K dL_fill_6 ?_
  refine w_c3I (pc := 8) K ca_yX3_fill ml_RL_169 rfl (t_X3_fill _ K.nt (AdrOC K.ad) σ a0 a1 a2 (.ok v) σ1 h) (Nat.le_of_ble_eq_true rfl) (by decide) (by decide) dL_fill_8 ?_
  refine v_i2l (pc := 11) K dL_fill_11 ?_
  refine v_lastore (pc := 12) (i := 28) (n := 1) K dL_fill_12 (Nat.le_of_ble_eq_true rfl) rfl ix01 ?_
  refine v_goto (pc := 13) (tgt := 24) K dL_fill_13 (by decide) ?_
  refine v_ic0 (pc := 24) K dL_fill_24 ?_
  exact v_wret (pc := 25) K dL_fill_25 rfl (by decide) (by decide)
set_option maxRecDepth 100000 in
theorem tw_fill_e1 (l : Launch) (hnt : l.stackTraces = false) {E : Ev} {base : Nat} (hE : Adr YO E base) (σ : St) (a0 : Int32) (a1 : Int64) (a2 : Int32)  (σ1 : St) (h : c_X3_fill σ a0 a1 a2 = some (.error "java/lang/IndexOutOfBoundsException", σ1)) : WCtr l yL_fill cL_fill 7 [(0, 13, 16, 20), (0, 13, 20, 29)] 9 170 E base [.ref (E.2.2 0), .int a0, .long a1, .int a2, .ref (E.2.2 28)] σ 1 (mgO σ1 σ) := by
  refine ofWW 1 (by decide +kernel) rfl hE hnt (Nat.le_of_ble_eq_true rfl) rfl (fun M hT hN K => ?_)
  refine v_aload5 (pc := 0) K dL_fill_0 ?_
  refine v_ic0 (pc := 2) K dL_fill_2 ?_
  refine v_aload0 (pc := 3) K dL_fill_3 ?_
  refine v_iload1 (pc := 4) K dL_fill_4 ?_
  refine v_lload2 (pc := 5) K dL_fill_5 ?_
  refine v_iload4 (pc := 6) K dL_fill_6 ?_
  refine w_c3E (pc := 8) K ca_yX3_fill ml_RL_169 rfl (t_X3_fill _ K.nt (AdrOC K.ad) σ a0 a1 a2 (.error "java/lang/IndexOutOfBoundsException") σ1 h) (Nat.le_of_ble_eq_true rfl) (by decide) (by decide) dL_fill_8 (fun H1 locs1 ls ce q hP hS hl hce hcv hcl => ?_)
  refine w_catch (pre := []) (x := ⟨0, 13, 16, 20⟩) (suf := [⟨0, 13, 20, 29⟩]) K hN (hT.trans rfl) (fun z hz => nomatch hz) (by decide) (by decide) kl_20 (by decide +kernel) hP hS hl hce hcv hcl ?_
  have K := w_up K
  refine v_astore6 (pc := 16) K dL_fill_16 rfl (Nat.le_of_ble_eq_true rfl) ?_
  refine v_ic1 (pc := 18) K dL_fill_18 ?_
  exact v_wret (pc := 19) K dL_fill_19 rfl (by decide) (by decide)
set_option maxRecDepth 100000 in
theorem tw_fill_e2 (l : Launch) (hnt : l.stackTraces = false) {E : Ev} {base : Nat} (hE : Adr YO E base) (σ : St) (a0 : Int32) (a1 : Int64) (a2 : Int32)  (σ1 : St) (h : c_X3_fill σ a0 a1 a2 = some (.error "java/lang/ArithmeticException", σ1)) : WCtr l yL_fill cL_fill 7 [(0, 13, 16, 20), (0, 13, 20, 29)] 9 170 E base [.ref (E.2.2 0), .int a0, .long a1, .int a2, .ref (E.2.2 28)] σ 2 (mgO σ1 σ) := by
  refine ofWW 1 (by decide +kernel) rfl hE hnt (Nat.le_of_ble_eq_true rfl) rfl (fun M hT hN K => ?_)
  refine v_aload5 (pc := 0) K dL_fill_0 ?_
  refine v_ic0 (pc := 2) K dL_fill_2 ?_
  refine v_aload0 (pc := 3) K dL_fill_3 ?_
  refine v_iload1 (pc := 4) K dL_fill_4 ?_
  refine v_lload2 (pc := 5) K dL_fill_5 ?_
  refine v_iload4 (pc := 6) K dL_fill_6 ?_
  refine w_c3E (pc := 8) K ca_yX3_fill ml_RL_169 rfl (t_X3_fill _ K.nt (AdrOC K.ad) σ a0 a1 a2 (.error "java/lang/ArithmeticException") σ1 h) (Nat.le_of_ble_eq_true rfl) (by decide) (by decide) dL_fill_8 (fun H1 locs1 ls ce q hP hS hl hce hcv hcl => ?_)
  refine w_catch (pre := [⟨0, 13, 16, 20⟩]) (x := ⟨0, 13, 20, 29⟩) (suf := []) K hN (hT.trans rfl) (fun z hz => by rw [List.mem_singleton.mp hz]; exact ⟨by decide, "java/lang/IndexOutOfBoundsException", kl_20, by decide +kernel⟩) (by decide) (by decide) kl_29 (by decide +kernel) hP hS hl hce hcv hcl ?_
  have K := w_up K
  refine v_astore6 (pc := 20) K dL_fill_20 rfl (Nat.le_of_ble_eq_true rfl) ?_
  refine v_ic2 (pc := 22) K dL_fill_22 ?_
  exact v_wret (pc := 23) K dL_fill_23 rfl (by decide) (by decide)
set_option maxRecDepth 100000 in
theorem tw_copy_ok (l : Launch) (hnt : l.stackTraces = false) {E : Ev} {base : Nat} (hE : Adr YO E base) (σ : St) (a0 : Int32) (a1 : Int32) (a2 : Int32) (v : Int32) (σ1 : St) (h : c_X3_copy σ a0 a1 a2 = some (.ok v, σ1)) : WCtr l yL_copy cL_copy 6 [(0, 12, 15, 20), (0, 12, 19, 29)] 9 169 E base [.ref (E.2.2 0), .int a0, .int a1, .int a2, .ref (E.2.2 28)] σ 0 (sL (mgO σ1 σ) 28 0 v.toInt64) := by
  refine ofWW 1 (by decide +kernel) rfl hE hnt (Nat.le_of_ble_eq_true rfl) rfl (fun M hT hN K => ?_)
  refine v_aload4 (pc := 0) K dL_copy_0 ?_
  refine v_ic0 (pc := 2) K dL_copy_2 ?_
  refine v_aload0 (pc := 3) K dL_copy_3 ?_
  refine v_iload1 (pc := 4) K dL_copy_4 ?_
  refine v_iload2 (pc := 5) K dL_copy_5 ?_
  refine v_iload3 (pc := 6) K dL_copy_6 ?_
  refine w_c3I (pc := 7) K ca_yX3_copy ml_RL_172 rfl (t_X3_copy _ K.nt (AdrOC K.ad) σ a0 a1 a2 (.ok v) σ1 h) (Nat.le_of_ble_eq_true rfl) (by decide) (by decide) dL_copy_7 ?_
  refine v_i2l (pc := 10) K dL_copy_10 ?_
  refine v_lastore (pc := 11) (i := 28) (n := 1) K dL_copy_11 (Nat.le_of_ble_eq_true rfl) rfl ix01 ?_
  refine v_goto (pc := 12) (tgt := 23) K dL_copy_12 (by decide) ?_
  refine v_ic0 (pc := 23) K dL_copy_23 ?_
  exact v_wret (pc := 24) K dL_copy_24 rfl (by decide) (by decide)
set_option maxRecDepth 100000 in
theorem tw_copy_e1 (l : Launch) (hnt : l.stackTraces = false) {E : Ev} {base : Nat} (hE : Adr YO E base) (σ : St) (a0 : Int32) (a1 : Int32) (a2 : Int32)  (σ1 : St) (h : c_X3_copy σ a0 a1 a2 = some (.error "java/lang/IndexOutOfBoundsException", σ1)) : WCtr l yL_copy cL_copy 6 [(0, 12, 15, 20), (0, 12, 19, 29)] 9 169 E base [.ref (E.2.2 0), .int a0, .int a1, .int a2, .ref (E.2.2 28)] σ 1 (mgO σ1 σ) := by
  refine ofWW 1 (by decide +kernel) rfl hE hnt (Nat.le_of_ble_eq_true rfl) rfl (fun M hT hN K => ?_)
  refine v_aload4 (pc := 0) K dL_copy_0 ?_
  refine v_ic0 (pc := 2) K dL_copy_2 ?_
  refine v_aload0 (pc := 3) K dL_copy_3 ?_
  refine v_iload1 (pc := 4) K dL_copy_4 ?_
  refine v_iload2 (pc := 5) K dL_copy_5 ?_
  refine v_iload3 (pc := 6) K dL_copy_6 ?_
  refine w_c3E (pc := 7) K ca_yX3_copy ml_RL_172 rfl (t_X3_copy _ K.nt (AdrOC K.ad) σ a0 a1 a2 (.error "java/lang/IndexOutOfBoundsException") σ1 h) (Nat.le_of_ble_eq_true rfl) (by decide) (by decide) dL_copy_7 (fun H1 locs1 ls ce q hP hS hl hce hcv hcl => ?_)
  refine w_catch (pre := []) (x := ⟨0, 12, 15, 20⟩) (suf := [⟨0, 12, 19, 29⟩]) K hN (hT.trans rfl) (fun z hz => nomatch hz) (by decide) (by decide) kl_20 (by decide +kernel) hP hS hl hce hcv hcl ?_
  have K := w_up K
  refine v_astore5 (pc := 15) K dL_copy_15 rfl (Nat.le_of_ble_eq_true rfl) ?_
  refine v_ic1 (pc := 17) K dL_copy_17 ?_
  exact v_wret (pc := 18) K dL_copy_18 rfl (by decide) (by decide)
set_option maxRecDepth 100000 in
theorem tw_copy_e2 (l : Launch) (hnt : l.stackTraces = false) {E : Ev} {base : Nat} (hE : Adr YO E base) (σ : St) (a0 : Int32) (a1 : Int32) (a2 : Int32)  (σ1 : St) (h : c_X3_copy σ a0 a1 a2 = some (.error "java/lang/ArithmeticException", σ1)) : WCtr l yL_copy cL_copy 6 [(0, 12, 15, 20), (0, 12, 19, 29)] 9 169 E base [.ref (E.2.2 0), .int a0, .int a1, .int a2, .ref (E.2.2 28)] σ 2 (mgO σ1 σ) := by
  refine ofWW 1 (by decide +kernel) rfl hE hnt (Nat.le_of_ble_eq_true rfl) rfl (fun M hT hN K => ?_)
  refine v_aload4 (pc := 0) K dL_copy_0 ?_
  refine v_ic0 (pc := 2) K dL_copy_2 ?_
  refine v_aload0 (pc := 3) K dL_copy_3 ?_
  refine v_iload1 (pc := 4) K dL_copy_4 ?_
  refine v_iload2 (pc := 5) K dL_copy_5 ?_
  refine v_iload3 (pc := 6) K dL_copy_6 ?_
  refine w_c3E (pc := 7) K ca_yX3_copy ml_RL_172 rfl (t_X3_copy _ K.nt (AdrOC K.ad) σ a0 a1 a2 (.error "java/lang/ArithmeticException") σ1 h) (Nat.le_of_ble_eq_true rfl) (by decide) (by decide) dL_copy_7 (fun H1 locs1 ls ce q hP hS hl hce hcv hcl => ?_)
  refine w_catch (pre := [⟨0, 12, 15, 20⟩]) (x := ⟨0, 12, 19, 29⟩) (suf := []) K hN (hT.trans rfl) (fun z hz => by rw [List.mem_singleton.mp hz]; exact ⟨by decide, "java/lang/IndexOutOfBoundsException", kl_20, by decide +kernel⟩) (by decide) (by decide) kl_29 (by decide +kernel) hP hS hl hce hcv hcl ?_
  have K := w_up K
  refine v_astore5 (pc := 19) K dL_copy_19 rfl (Nat.le_of_ble_eq_true rfl) ?_
  refine v_ic2 (pc := 21) K dL_copy_21 ?_
  exact v_wret (pc := 22) K dL_copy_22 rfl (by decide) (by decide)
set_option maxRecDepth 100000 in
theorem tw_pick_ok (l : Launch) (hnt : l.stackTraces = false) {E : Ev} {base : Nat} (hE : Adr YO E base) (σ : St) (a0 : Int32) (a1 : Int32) (a2 : Int32) (a3 : Int32) (v : Int32) (σ1 : St) (h : c_X3_pick σ a0 a1 a2 a3 = some (.ok v, σ1)) : WCtr l yL_pick cL_pick 7 [(0, 14, 17, 20), (0, 14, 21, 29)] 9 174 E base [.ref (E.2.2 0), .int a0, .int a1, .int a2, .int a3, .ref (E.2.2 28)] σ 0 (sL (mgO σ1 σ) 28 0 v.toInt64) := by
  refine ofWW 1 (by decide +kernel) rfl hE hnt (Nat.le_of_ble_eq_true rfl) rfl (fun M hT hN K => ?_)
  refine v_aload5 (pc := 0) K dL_pick_0 ?_
  refine v_ic0 (pc := 2) K dL_pick_2 ?_
  refine v_aload0 (pc := 3) K dL_pick_3 ?_
  refine v_iload1 (pc := 4) K dL_pick_4 ?_
  refine v_iload2 (pc := 5) K dL_pick_5 ?_
  refine v_iload3 (pc := 6) K dL_pick_6 ?_
  refine v_iload4 (pc := 7) K dL_pick_7 ?_
  refine w_c4I (pc := 9) K ca_yX3_pick ml_RL_175 rfl (t_X3_pick _ K.nt (AdrOC K.ad) σ a0 a1 a2 a3 (.ok v) σ1 h) (Nat.le_of_ble_eq_true rfl) (by decide) (by decide) dL_pick_9 ?_
  refine v_i2l (pc := 12) K dL_pick_12 ?_
  refine v_lastore (pc := 13) (i := 28) (n := 1) K dL_pick_13 (Nat.le_of_ble_eq_true rfl) rfl ix01 ?_
  refine v_goto (pc := 14) (tgt := 25) K dL_pick_14 (by decide) ?_
  refine v_ic0 (pc := 25) K dL_pick_25 ?_
  exact v_wret (pc := 26) K dL_pick_26 rfl (by decide) (by decide)
set_option maxRecDepth 100000 in
theorem tw_pick_e1 (l : Launch) (hnt : l.stackTraces = false) {E : Ev} {base : Nat} (hE : Adr YO E base) (σ : St) (a0 : Int32) (a1 : Int32) (a2 : Int32) (a3 : Int32)  (σ1 : St) (h : c_X3_pick σ a0 a1 a2 a3 = some (.error "java/lang/IndexOutOfBoundsException", σ1)) : WCtr l yL_pick cL_pick 7 [(0, 14, 17, 20), (0, 14, 21, 29)] 9 174 E base [.ref (E.2.2 0), .int a0, .int a1, .int a2, .int a3, .ref (E.2.2 28)] σ 1 (mgO σ1 σ) := by
  refine ofWW 1 (by decide +kernel) rfl hE hnt (Nat.le_of_ble_eq_true rfl) rfl (fun M hT hN K => ?_)
  refine v_aload5 (pc := 0) K dL_pick_0 ?_
  refine v_ic0 (pc := 2) K dL_pick_2 ?_
  refine v_aload0 (pc := 3) K dL_pick_3 ?_
  refine v_iload1 (pc := 4) K dL_pick_4 ?_
  refine v_iload2 (pc := 5) K dL_pick_5 ?_
  refine v_iload3 (pc := 6) K dL_pick_6 ?_
  refine v_iload4 (pc := 7) K dL_pick_7 ?_
  refine w_c4E (pc := 9) K ca_yX3_pick ml_RL_175 rfl (t_X3_pick _ K.nt (AdrOC K.ad) σ a0 a1 a2 a3 (.error "java/lang/IndexOutOfBoundsException") σ1 h) (Nat.le_of_ble_eq_true rfl) (by decide) (by decide) dL_pick_9 (fun H1 locs1 ls ce q hP hS hl hce hcv hcl => ?_)
  refine w_catch (pre := []) (x := ⟨0, 14, 17, 20⟩) (suf := [⟨0, 14, 21, 29⟩]) K hN (hT.trans rfl) (fun z hz => nomatch hz) (by decide) (by decide) kl_20 (by decide +kernel) hP hS hl hce hcv hcl ?_
  have K := w_up K
  refine v_astore6 (pc := 17) K dL_pick_17 rfl (Nat.le_of_ble_eq_true rfl) ?_
  refine v_ic1 (pc := 19) K dL_pick_19 ?_
  exact v_wret (pc := 20) K dL_pick_20 rfl (by decide) (by decide)
set_option maxRecDepth 100000 in
theorem tw_pick_e2 (l : Launch) (hnt : l.stackTraces = false) {E : Ev} {base : Nat} (hE : Adr YO E base) (σ : St) (a0 : Int32) (a1 : Int32) (a2 : Int32) (a3 : Int32)  (σ1 : St) (h : c_X3_pick σ a0 a1 a2 a3 = some (.error "java/lang/ArithmeticException", σ1)) : WCtr l yL_pick cL_pick 7 [(0, 14, 17, 20), (0, 14, 21, 29)] 9 174 E base [.ref (E.2.2 0), .int a0, .int a1, .int a2, .int a3, .ref (E.2.2 28)] σ 2 (mgO σ1 σ) := by
  refine ofWW 1 (by decide +kernel) rfl hE hnt (Nat.le_of_ble_eq_true rfl) rfl (fun M hT hN K => ?_)
  refine v_aload5 (pc := 0) K dL_pick_0 ?_
  refine v_ic0 (pc := 2) K dL_pick_2 ?_
  refine v_aload0 (pc := 3) K dL_pick_3 ?_
  refine v_iload1 (pc := 4) K dL_pick_4 ?_
  refine v_iload2 (pc := 5) K dL_pick_5 ?_
  refine v_iload3 (pc := 6) K dL_pick_6 ?_
  refine v_iload4 (pc := 7) K dL_pick_7 ?_
  refine w_c4E (pc := 9) K ca_yX3_pick ml_RL_175 rfl (t_X3_pick _ K.nt (AdrOC K.ad) σ a0 a1 a2 a3 (.error "java/lang/ArithmeticException") σ1 h) (Nat.le_of_ble_eq_true rfl) (by decide) (by decide) dL_pick_9 (fun H1 locs1 ls ce q hP hS hl hce hcv hcl => ?_)
  refine w_catch (pre := [⟨0, 14, 17, 20⟩]) (x := ⟨0, 14, 21, 29⟩) (suf := []) K hN (hT.trans rfl) (fun z hz => by rw [List.mem_singleton.mp hz]; exact ⟨by decide, "java/lang/IndexOutOfBoundsException", kl_20, by decide +kernel⟩) (by decide) (by decide) kl_29 (by decide +kernel) hP hS hl hce hcv hcl ?_
  have K := w_up K
  refine v_astore6 (pc := 21) K dL_pick_21 rfl (Nat.le_of_ble_eq_true rfl) ?_
  refine v_ic2 (pc := 23) K dL_pick_23 ?_
  exact v_wret (pc := 24) K dL_pick_24 rfl (by decide) (by decide)
set_option maxRecDepth 100000 in
theorem tw_wipe_ok (l : Launch) (hnt : l.stackTraces = false) {E : Ev} {base : Nat} (hE : Adr YO E base) (σ : St) (a0 : Int32) (a1 : Int32) (v : Int32) (σ1 : St) (h : c_X3_wipe σ a0 a1 = some (.ok v, σ1)) : WCtr l yL_wipe cL_wipe 5 [(0, 10, 13, 20)] 8 145 E base [.ref (E.2.2 0), .int a0, .int a1, .ref (E.2.2 28)] σ 0 (sL (mgO σ1 σ) 28 0 v.toInt64) := by
  refine ofWW 1 (by decide +kernel) rfl hE hnt (Nat.le_of_ble_eq_true rfl) rfl (fun M hT hN K => ?_)
  refine v_aload3 (pc := 0) K dL_wipe_0 ?_
  refine v_ic0 (pc := 1) K dL_wipe_1 ?_
  refine v_aload0 (pc := 2) K dL_wipe_2 ?_
  refine v_iload1 (pc := 3) K dL_wipe_3 ?_
  refine v_iload2 (pc := 4) K dL_wipe_4 ?_
  refine w_c2I (pc := 5) K ca_yX3_wipe ml_RL_178 rfl (t_X3_wipe _ K.nt (AdrOC K.ad) σ a0 a1 (.ok v) σ1 h) (Nat.le_of_ble_eq_true rfl) (by decide) (by decide) dL_wipe_5 ?_
  refine v_i2l (pc := 8) K dL_wipe_8 ?_
  refine v_lastore (pc := 9) (i := 28) (n := 1) K dL_wipe_9 (Nat.le_of_ble_eq_true rfl) rfl ix01 ?_
  refine v_goto (pc := 10) (tgt := 17) K dL_wipe_10 (by decide) ?_
  refine v_ic0 (pc := 17) K dL_wipe_17 ?_
  exact v_wret (pc := 18) K dL_wipe_18 rfl (by decide) (by decide)
set_option maxRecDepth 100000 in
theorem tw_wipe_e1 (l : Launch) (hnt : l.stackTraces = false) {E : Ev} {base : Nat} (hE : Adr YO E base) (σ : St) (a0 : Int32) (a1 : Int32)  (σ1 : St) (h : c_X3_wipe σ a0 a1 = some (.error "java/lang/IndexOutOfBoundsException", σ1)) : WCtr l yL_wipe cL_wipe 5 [(0, 10, 13, 20)] 8 145 E base [.ref (E.2.2 0), .int a0, .int a1, .ref (E.2.2 28)] σ 1 (mgO σ1 σ) := by
  refine ofWW 1 (by decide +kernel) rfl hE hnt (Nat.le_of_ble_eq_true rfl) rfl (fun M hT hN K => ?_)
  refine v_aload3 (pc := 0) K dL_wipe_0 ?_
  refine v_ic0 (pc := 1) K dL_wipe_1 ?_
  refine v_aload0 (pc := 2) K dL_wipe_2 ?_
  refine v_iload1 (pc := 3) K dL_wipe_3 ?_
  refine v_iload2 (pc := 4) K dL_wipe_4 ?_
  refine w_c2E (pc := 5) K ca_yX3_wipe ml_RL_178 rfl (t_X3_wipe _ K.nt (AdrOC K.ad) σ a0 a1 (.error "java/lang/IndexOutOfBoundsException") σ1 h) (Nat.le_of_ble_eq_true rfl) (by decide) (by decide) dL_wipe_5 (fun H1 locs1 ls ce q hP hS hl hce hcv hcl => ?_)
  refine w_catch (pre := []) (x := ⟨0, 10, 13, 20⟩) (suf := []) K hN (hT.trans rfl) (fun z hz => nomatch hz) (by decide) (by decide) kl_20 (by decide +kernel) hP hS hl hce hcv hcl ?_
  have K := w_up K
  refine v_astore4 (pc := 13) K dL_wipe_13 rfl (Nat.le_of_ble_eq_true rfl) ?_
  refine v_ic1 (pc := 15) K dL_wipe_15 ?_
  exact v_wret (pc := 16) K dL_wipe_16 rfl (by decide) (by decide)
set_option maxRecDepth 100000 in
theorem tw_widen_ok (l : Launch) (hnt : l.stackTraces = false) {E : Ev} {base : Nat} (hE : Adr YO E base) (σ : St) (a0 : Int32) (a1 : Int32) (v : Int32) (σ1 : St) (h : c_X3_widen σ a0 a1 = some (.ok v, σ1)) : WCtr l yL_widen cL_widen 5 [(0, 10, 13, 20), (0, 10, 17, 13), (0, 10, 21, 29)] 9 163 E base [.ref (E.2.2 0), .int a0, .int a1, .ref (E.2.2 28)] σ 0 (sL (mgO σ1 σ) 28 0 v.toInt64) := by
  refine ofWW 1 (by decide +kernel) rfl hE hnt (Nat.le_of_ble_eq_true rfl) rfl (fun M hT hN K => ?_)
  refine v_aload3 (pc := 0) K dL_widen_0 ?_
  refine v_ic0 (pc := 1) K dL_widen_1 ?_
  refine v_aload0 (pc := 2) K dL_widen_2 ?_
  refine v_iload1 (pc := 3) K dL_widen_3 ?_
  refine v_iload2 (pc := 4) K dL_widen_4 ?_
  refine w_c2I (pc := 5) K ca_yX3_widen ml_RL_181 rfl (t_X3_widen _ K.nt (AdrOC K.ad) σ a0 a1 (.ok v) σ1 h) (Nat.le_of_ble_eq_true rfl) (by decide) (by decide) dL_widen_5 ?_
  refine v_i2l (pc := 8) K dL_widen_8 ?_
  refine v_lastore (pc := 9) (i := 28) (n := 1) K dL_widen_9 (Nat.le_of_ble_eq_true rfl) rfl ix01 ?_
  refine v_goto (pc := 10) (tgt := 25) K dL_widen_10 (by decide) ?_
  refine v_ic0 (pc := 25) K dL_widen_25 ?_
  exact v_wret (pc := 26) K dL_widen_26 rfl (by decide) (by decide)
set_option maxRecDepth 100000 in
theorem tw_widen_e1 (l : Launch) (hnt : l.stackTraces = false) {E : Ev} {base : Nat} (hE : Adr YO E base) (σ : St) (a0 : Int32) (a1 : Int32)  (σ1 : St) (h : c_X3_widen σ a0 a1 = some (.error "java/lang/IndexOutOfBoundsException", σ1)) : WCtr l yL_widen cL_widen 5 [(0, 10, 13, 20), (0, 10, 17, 13), (0, 10, 21, 29)] 9 163 E base [.ref (E.2.2 0), .int a0, .int a1, .ref (E.2.2 28)] σ 1 (mgO σ1 σ) := by
  refine ofWW 1 (by decide +kernel) rfl hE hnt (Nat.le_of_ble_eq_true rfl) rfl (fun M hT hN K => ?_)
  refine v_aload3 (pc := 0) K dL_widen_0 ?_
  refine v_ic0 (pc := 1) K dL_widen_1 ?_
  refine v_aload0 (pc := 2) K dL_widen_2 ?_
  refine v_iload1 (pc := 3) K dL_widen_3 ?_
  refine v_iload2 (pc := 4) K dL_widen_4 ?_
  refine w_c2E (pc := 5) K ca_yX3_widen ml_RL_181 rfl (t_X3_widen _ K.nt (AdrOC K.ad) σ a0 a1 (.error "java/lang/IndexOutOfBoundsException") σ1 h) (Nat.le_of_ble_eq_true rfl) (by decide) (by decide) dL_widen_5 (fun H1 locs1 ls ce q hP hS hl hce hcv hcl => ?_)
  refine w_catch (pre := []) (x := ⟨0, 10, 13, 20⟩) (suf := [⟨0, 10, 17, 13⟩, ⟨0, 10, 21, 29⟩]) K hN (hT.trans rfl) (fun z hz => nomatch hz) (by decide) (by decide) kl_20 (by decide +kernel) hP hS hl hce hcv hcl ?_
  have K := w_up K
  refine v_astore4 (pc := 13) K dL_widen_13 rfl (Nat.le_of_ble_eq_true rfl) ?_
  refine v_ic1 (pc := 15) K dL_widen_15 ?_
  exact v_wret (pc := 16) K dL_widen_16 rfl (by decide) (by decide)
set_option maxRecDepth 100000 in
theorem tw_widen_e2 (l : Launch) (hnt : l.stackTraces = false) {E : Ev} {base : Nat} (hE : Adr YO E base) (σ : St) (a0 : Int32) (a1 : Int32)  (σ1 : St) (h : c_X3_widen σ a0 a1 = some (.error "java/lang/IllegalArgumentException", σ1)) : WCtr l yL_widen cL_widen 5 [(0, 10, 13, 20), (0, 10, 17, 13), (0, 10, 21, 29)] 9 163 E base [.ref (E.2.2 0), .int a0, .int a1, .ref (E.2.2 28)] σ 2 (mgO σ1 σ) := by
  refine ofWW 1 (by decide +kernel) rfl hE hnt (Nat.le_of_ble_eq_true rfl) rfl (fun M hT hN K => ?_)
  refine v_aload3 (pc := 0) K dL_widen_0 ?_
  refine v_ic0 (pc := 1) K dL_widen_1 ?_
  refine v_aload0 (pc := 2) K dL_widen_2 ?_
  refine v_iload1 (pc := 3) K dL_widen_3 ?_
  refine v_iload2 (pc := 4) K dL_widen_4 ?_
  refine w_c2E (pc := 5) K ca_yX3_widen ml_RL_181 rfl (t_X3_widen _ K.nt (AdrOC K.ad) σ a0 a1 (.error "java/lang/IllegalArgumentException") σ1 h) (Nat.le_of_ble_eq_true rfl) (by decide) (by decide) dL_widen_5 (fun H1 locs1 ls ce q hP hS hl hce hcv hcl => ?_)
  refine w_catch (pre := [⟨0, 10, 13, 20⟩]) (x := ⟨0, 10, 17, 13⟩) (suf := [⟨0, 10, 21, 29⟩]) K hN (hT.trans rfl) (fun z hz => by rw [List.mem_singleton.mp hz]; exact ⟨by decide, "java/lang/IndexOutOfBoundsException", kl_20, by decide +kernel⟩) (by decide) (by decide) kl_13 (by decide +kernel) hP hS hl hce hcv hcl ?_
  have K := w_up K
  refine v_astore4 (pc := 17) K dL_widen_17 rfl (Nat.le_of_ble_eq_true rfl) ?_
  refine v_ic2 (pc := 19) K dL_widen_19 ?_
  exact v_wret (pc := 20) K dL_widen_20 rfl (by decide) (by decide)
set_option maxRecDepth 100000 in
theorem tw_widen_e3 (l : Launch) (hnt : l.stackTraces = false) {E : Ev} {base : Nat} (hE : Adr YO E base) (σ : St) (a0 : Int32) (a1 : Int32)  (σ1 : St) (h : c_X3_widen σ a0 a1 = some (.error "java/lang/ArithmeticException", σ1)) : WCtr l yL_widen cL_widen 5 [(0, 10, 13, 20), (0, 10, 17, 13), (0, 10, 21, 29)] 9 163 E base [.ref (E.2.2 0), .int a0, .int a1, .ref (E.2.2 28)] σ 3 (mgO σ1 σ) := by
  refine ofWW 1 (by decide +kernel) rfl hE hnt (Nat.le_of_ble_eq_true rfl) rfl (fun M hT hN K => ?_)
  refine v_aload3 (pc := 0) K dL_widen_0 ?_
  refine v_ic0 (pc := 1) K dL_widen_1 ?_
  refine v_aload0 (pc := 2) K dL_widen_2 ?_
  refine v_iload1 (pc := 3) K dL_widen_3 ?_
  refine v_iload2 (pc := 4) K dL_widen_4 ?_
  refine w_c2E (pc := 5) K ca_yX3_widen ml_RL_181 rfl (t_X3_widen _ K.nt (AdrOC K.ad) σ a0 a1 (.error "java/lang/ArithmeticException") σ1 h) (Nat.le_of_ble_eq_true rfl) (by decide) (by decide) dL_widen_5 (fun H1 locs1 ls ce q hP hS hl hce hcv hcl => ?_)
  refine w_catch (pre := [⟨0, 10, 13, 20⟩, ⟨0, 10, 17, 13⟩]) (x := ⟨0, 10, 21, 29⟩) (suf := []) K hN (hT.trans rfl) (fun z hz => (List.mem_cons.mp hz).elim (fun e => by rw [e]; exact ⟨by decide, "java/lang/IndexOutOfBoundsException", kl_20, by decide +kernel⟩) (fun e => by rw [List.mem_singleton.mp e]; exact ⟨by decide, "java/lang/IllegalArgumentException", kl_13, by decide +kernel⟩)) (by decide) (by decide) kl_29 (by decide +kernel) hP hS hl hce hcv hcl ?_
  have K := w_up K
  refine v_astore4 (pc := 21) K dL_widen_21 rfl (Nat.le_of_ble_eq_true rfl) ?_
  refine v_ic3 (pc := 23) K dL_widen_23 ?_
  exact v_wret (pc := 24) K dL_widen_24 rfl (by decide) (by decide)
set_option maxRecDepth 100000 in
theorem tw_remove_ok (l : Launch) (hnt : l.stackTraces = false) {E : Ev} {base : Nat} (hE : Adr YO E base) (σ : St) (a0 : Int32) (v : Int32) (σ1 : St) (h : c_X3_remove σ a0 = some (.ok v, σ1)) : WCtr l yL_remove cL_remove 4 [(0, 9, 12, 20)] 8 141 E base [.ref (E.2.2 0), .int a0, .ref (E.2.2 28)] σ 0 (sL (mgO σ1 σ) 28 0 v.toInt64) := by
  refine ofWW 1 (by decide +kernel) rfl hE hnt (Nat.le_of_ble_eq_true rfl) rfl (fun M hT hN K => ?_)
  refine v_aload2 (pc := 0) K dL_remove_0 ?_
  refine v_ic0 (pc := 1) K dL_remove_1 ?_
  refine v_aload0 (pc := 2) K dL_remove_2 ?_
  refine v_iload1 (pc := 3) K dL_remove_3 ?_
  refine w_c1I (pc := 4) K ca_yX3_remove ml_RL_184 rfl (t_X3_remove _ K.nt (AdrOC K.ad) σ a0 (.ok v) σ1 h) (Nat.le_of_ble_eq_true rfl) (by decide) (by decide) dL_remove_4 ?_
  refine v_i2l (pc := 7) K dL_remove_7 ?_
  refine v_lastore (pc := 8) (i := 28) (n := 1) K dL_remove_8 (Nat.le_of_ble_eq_true rfl) rfl ix01 ?_
  refine v_goto (pc := 9) (tgt := 15) K dL_remove_9 (by decide) ?_
  refine v_ic0 (pc := 15) K dL_remove_15 ?_
  exact v_wret (pc := 16) K dL_remove_16 rfl (by decide) (by decide)
set_option maxRecDepth 100000 in
theorem tw_remove_e1 (l : Launch) (hnt : l.stackTraces = false) {E : Ev} {base : Nat} (hE : Adr YO E base) (σ : St) (a0 : Int32)  (σ1 : St) (h : c_X3_remove σ a0 = some (.error "java/lang/IndexOutOfBoundsException", σ1)) : WCtr l yL_remove cL_remove 4 [(0, 9, 12, 20)] 8 141 E base [.ref (E.2.2 0), .int a0, .ref (E.2.2 28)] σ 1 (mgO σ1 σ) := by
  refine ofWW 1 (by decide +kernel) rfl hE hnt (Nat.le_of_ble_eq_true rfl) rfl (fun M hT hN K => ?_)
  refine v_aload2 (pc := 0) K dL_remove_0 ?_
  refine v_ic0 (pc := 1) K dL_remove_1 ?_
  refine v_aload0 (pc := 2) K dL_remove_2 ?_
  refine v_iload1 (pc := 3) K dL_remove_3 ?_
  refine w_c1E (pc := 4) K ca_yX3_remove ml_RL_184 rfl (t_X3_remove _ K.nt (AdrOC K.ad) σ a0 (.error "java/lang/IndexOutOfBoundsException") σ1 h) (Nat.le_of_ble_eq_true rfl) (by decide) (by decide) dL_remove_4 (fun H1 locs1 ls ce q hP hS hl hce hcv hcl => ?_)
  refine w_catch (pre := []) (x := ⟨0, 9, 12, 20⟩) (suf := []) K hN (hT.trans rfl) (fun z hz => nomatch hz) (by decide) (by decide) kl_20 (by decide +kernel) hP hS hl hce hcv hcl ?_
  have K := w_up K
  refine v_astore3 (pc := 12) K dL_remove_12 rfl (Nat.le_of_ble_eq_true rfl) ?_
  refine v_ic1 (pc := 13) K dL_remove_13 ?_
  exact v_wret (pc := 14) K dL_remove_14 rfl (by decide) (by decide)
set_option maxRecDepth 100000 in
theorem tw_first_ok (l : Launch) (hnt : l.stackTraces = false) {E : Ev} {base : Nat} (hE : Adr YO E base) (σ : St) (a0 : Int32) (v : Int32) (σ1 : St) (h : c_X3_first σ a0 = some (.ok v, σ1)) : WCtr l yL_first cL_first 4 [(0, 9, 12, 20)] 8 141 E base [.ref (E.2.2 0), .int a0, .ref (E.2.2 28)] σ 0 (sL (mgO σ1 σ) 28 0 v.toInt64) := by
  refine ofWW 1 (by decide +kernel) rfl hE hnt (Nat.le_of_ble_eq_true rfl) rfl (fun M hT hN K => ?_)
  refine v_aload2 (pc := 0) K dL_first_0 ?_
  refine v_ic0 (pc := 1) K dL_first_1 ?_
  refine v_aload0 (pc := 2) K dL_first_2 ?_
  refine v_iload1 (pc := 3) K dL_first_3 ?_
  refine w_c1I (pc := 4) K ca_yX3_first ml_RL_187 rfl (t_X3_first _ K.nt (AdrOC K.ad) σ a0 (.ok v) σ1 h) (Nat.le_of_ble_eq_true rfl) (by decide) (by decide) dL_first_4 ?_
  refine v_i2l (pc := 7) K dL_first_7 ?_
  refine v_lastore (pc := 8) (i := 28) (n := 1) K dL_first_8 (Nat.le_of_ble_eq_true rfl) rfl ix01 ?_
  refine v_goto (pc := 9) (tgt := 15) K dL_first_9 (by decide) ?_
  refine v_ic0 (pc := 15) K dL_first_15 ?_
  exact v_wret (pc := 16) K dL_first_16 rfl (by decide) (by decide)
set_option maxRecDepth 100000 in
theorem tw_first_e1 (l : Launch) (hnt : l.stackTraces = false) {E : Ev} {base : Nat} (hE : Adr YO E base) (σ : St) (a0 : Int32)  (σ1 : St) (h : c_X3_first σ a0 = some (.error "java/lang/IndexOutOfBoundsException", σ1)) : WCtr l yL_first cL_first 4 [(0, 9, 12, 20)] 8 141 E base [.ref (E.2.2 0), .int a0, .ref (E.2.2 28)] σ 1 (mgO σ1 σ) := by
  refine ofWW 1 (by decide +kernel) rfl hE hnt (Nat.le_of_ble_eq_true rfl) rfl (fun M hT hN K => ?_)
  refine v_aload2 (pc := 0) K dL_first_0 ?_
  refine v_ic0 (pc := 1) K dL_first_1 ?_
  refine v_aload0 (pc := 2) K dL_first_2 ?_
  refine v_iload1 (pc := 3) K dL_first_3 ?_
  refine w_c1E (pc := 4) K ca_yX3_first ml_RL_187 rfl (t_X3_first _ K.nt (AdrOC K.ad) σ a0 (.error "java/lang/IndexOutOfBoundsException") σ1 h) (Nat.le_of_ble_eq_true rfl) (by decide) (by decide) dL_first_4 (fun H1 locs1 ls ce q hP hS hl hce hcv hcl => ?_)
  refine w_catch (pre := []) (x := ⟨0, 9, 12, 20⟩) (suf := []) K hN (hT.trans rfl) (fun z hz => nomatch hz) (by decide) (by decide) kl_20 (by decide +kernel) hP hS hl hce hcv hcl ?_
  have K := w_up K
  refine v_astore3 (pc := 12) K dL_first_12 rfl (Nat.le_of_ble_eq_true rfl) ?_
  refine v_ic1 (pc := 13) K dL_first_13 ?_
  exact v_wret (pc := 14) K dL_first_14 rfl (by decide) (by decide)
set_option maxRecDepth 100000 in
theorem tw_sort_ok (l : Launch) (hnt : l.stackTraces = false) {E : Ev} {base : Nat} (hE : Adr YO E base) (σ : St) (a0 : Int32) (a1 : Int32) (v : Int32) (σ1 : St) (h : c_X3_sort σ a0 a1 = some (.ok v, σ1)) : WCtr l yL_sort cL_sort 5 [(0, 10, 13, 20)] 8 144 E base [.ref (E.2.2 0), .int a0, .int a1, .ref (E.2.2 28)] σ 0 (sL (mgO σ1 σ) 28 0 v.toInt64) := by
  refine ofWW 1 (by decide +kernel) rfl hE hnt (Nat.le_of_ble_eq_true rfl) rfl (fun M hT hN K => ?_)
  refine v_aload3 (pc := 0) K dL_sort_0 ?_
  refine v_ic0 (pc := 1) K dL_sort_1 ?_
  refine v_aload0 (pc := 2) K dL_sort_2 ?_
  refine v_iload1 (pc := 3) K dL_sort_3 ?_
  refine v_iload2 (pc := 4) K dL_sort_4 ?_
  refine w_c2I (pc := 5) K ca_yX3_sort ml_RL_190 rfl (t_X3_sort _ K.nt (AdrOC K.ad) σ a0 a1 (.ok v) σ1 h) (Nat.le_of_ble_eq_true rfl) (by decide) (by decide) dL_sort_5 ?_
  refine v_i2l (pc := 8) K dL_sort_8 ?_
  refine v_lastore (pc := 9) (i := 28) (n := 1) K dL_sort_9 (Nat.le_of_ble_eq_true rfl) rfl ix01 ?_
  refine v_goto (pc := 10) (tgt := 17) K dL_sort_10 (by decide) ?_
  refine v_ic0 (pc := 17) K dL_sort_17 ?_
  exact v_wret (pc := 18) K dL_sort_18 rfl (by decide) (by decide)
set_option maxRecDepth 100000 in
theorem tw_sort_e1 (l : Launch) (hnt : l.stackTraces = false) {E : Ev} {base : Nat} (hE : Adr YO E base) (σ : St) (a0 : Int32) (a1 : Int32)  (σ1 : St) (h : c_X3_sort σ a0 a1 = some (.error "java/lang/IndexOutOfBoundsException", σ1)) : WCtr l yL_sort cL_sort 5 [(0, 10, 13, 20)] 8 144 E base [.ref (E.2.2 0), .int a0, .int a1, .ref (E.2.2 28)] σ 1 (mgO σ1 σ) := by
  refine ofWW 1 (by decide +kernel) rfl hE hnt (Nat.le_of_ble_eq_true rfl) rfl (fun M hT hN K => ?_)
  refine v_aload3 (pc := 0) K dL_sort_0 ?_
  refine v_ic0 (pc := 1) K dL_sort_1 ?_
  refine v_aload0 (pc := 2) K dL_sort_2 ?_
  refine v_iload1 (pc := 3) K dL_sort_3 ?_
  refine v_iload2 (pc := 4) K dL_sort_4 ?_
  refine w_c2E (pc := 5) K ca_yX3_sort ml_RL_190 rfl (t_X3_sort _ K.nt (AdrOC K.ad) σ a0 a1 (.error "java/lang/IndexOutOfBoundsException") σ1 h) (Nat.le_of_ble_eq_true rfl) (by decide) (by decide) dL_sort_5 (fun H1 locs1 ls ce q hP hS hl hce hcv hcl => ?_)
  refine w_catch (pre := []) (x := ⟨0, 10, 13, 20⟩) (suf := []) K hN (hT.trans rfl) (fun z hz => nomatch hz) (by decide) (by decide) kl_20 (by decide +kernel) hP hS hl hce hcv hcl ?_
  have K := w_up K
  refine v_astore4 (pc := 13) K dL_sort_13 rfl (Nat.le_of_ble_eq_true rfl) ?_
  refine v_ic1 (pc := 15) K dL_sort_15 ?_
  exact v_wret (pc := 16) K dL_sort_16 rfl (by decide) (by decide)
set_option maxRecDepth 100000 in
theorem tw_swap_ok (l : Launch) (hnt : l.stackTraces = false) {E : Ev} {base : Nat} (hE : Adr YO E base) (σ : St) (a0 : Int32) (a1 : Int32) (v : Int32) (σ1 : St) (h : c_X3_swap σ a0 a1 = some (.ok v, σ1)) : WCtr l yL_swap cL_swap 5 [(0, 10, 13, 20)] 8 143 E base [.ref (E.2.2 0), .int a0, .int a1, .ref (E.2.2 28)] σ 0 (sL (mgO σ1 σ) 28 0 v.toInt64) := by
  refine ofWW 1 (by decide +kernel) rfl hE hnt (Nat.le_of_ble_eq_true rfl) rfl (fun M hT hN K => ?_)
  refine v_aload3 (pc := 0) K dL_swap_0 ?_
  refine v_ic0 (pc := 1) K dL_swap_1 ?_
  refine v_aload0 (pc := 2) K dL_swap_2 ?_
  refine v_iload1 (pc := 3) K dL_swap_3 ?_
  refine v_iload2 (pc := 4) K dL_swap_4 ?_
  refine w_c2I (pc := 5) K ca_yX3_swap ml_RL_194 rfl (t_X3_swap _ K.nt (AdrOC K.ad) σ a0 a1 (.ok v) σ1 h) (Nat.le_of_ble_eq_true rfl) (by decide) (by decide) dL_swap_5 ?_
  refine v_i2l (pc := 8) K dL_swap_8 ?_
  refine v_lastore (pc := 9) (i := 28) (n := 1) K dL_swap_9 (Nat.le_of_ble_eq_true rfl) rfl ix01 ?_
  refine v_goto (pc := 10) (tgt := 17) K dL_swap_10 (by decide) ?_
  refine v_ic0 (pc := 17) K dL_swap_17 ?_
  exact v_wret (pc := 18) K dL_swap_18 rfl (by decide) (by decide)
set_option maxRecDepth 100000 in
theorem tw_swap_e1 (l : Launch) (hnt : l.stackTraces = false) {E : Ev} {base : Nat} (hE : Adr YO E base) (σ : St) (a0 : Int32) (a1 : Int32)  (σ1 : St) (h : c_X3_swap σ a0 a1 = some (.error "java/lang/IndexOutOfBoundsException", σ1)) : WCtr l yL_swap cL_swap 5 [(0, 10, 13, 20)] 8 143 E base [.ref (E.2.2 0), .int a0, .int a1, .ref (E.2.2 28)] σ 1 (mgO σ1 σ) := by
  refine ofWW 1 (by decide +kernel) rfl hE hnt (Nat.le_of_ble_eq_true rfl) rfl (fun M hT hN K => ?_)
  refine v_aload3 (pc := 0) K dL_swap_0 ?_
  refine v_ic0 (pc := 1) K dL_swap_1 ?_
  refine v_aload0 (pc := 2) K dL_swap_2 ?_
  refine v_iload1 (pc := 3) K dL_swap_3 ?_
  refine v_iload2 (pc := 4) K dL_swap_4 ?_
  refine w_c2E (pc := 5) K ca_yX3_swap ml_RL_194 rfl (t_X3_swap _ K.nt (AdrOC K.ad) σ a0 a1 (.error "java/lang/IndexOutOfBoundsException") σ1 h) (Nat.le_of_ble_eq_true rfl) (by decide) (by decide) dL_swap_5 (fun H1 locs1 ls ce q hP hS hl hce hcv hcl => ?_)
  refine w_catch (pre := []) (x := ⟨0, 10, 13, 20⟩) (suf := []) K hN (hT.trans rfl) (fun z hz => nomatch hz) (by decide) (by decide) kl_20 (by decide +kernel) hP hS hl hce hcv hcl ?_
  have K := w_up K
  refine v_astore4 (pc := 13) K dL_swap_13 rfl (Nat.le_of_ble_eq_true rfl) ?_
  refine v_ic1 (pc := 15) K dL_swap_15 ?_
  exact v_wret (pc := 16) K dL_swap_16 rfl (by decide) (by decide)
