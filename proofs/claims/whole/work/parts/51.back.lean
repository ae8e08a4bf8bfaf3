/-! back -/
section BK
variable {M : MT} {E : Ev} {A : Nat → Prop} {nL kc ks : Nat} {Q : State → Prop} {Z Z1 : Heap → Prop} {cc : ByteArray} {own : String} {rt : Option FieldType} {base fr lo mc ms pc : Nat} {L : List (Option Value)} {st : List Value}
theorem z_astN2 {x0 x1 y : Option Value} {t : List (Option Value)} (K : OKz M cc own nL) (d : decode cc pc = .ok (.astore_n 2, 1)) (hb : nlg x1 = true) (hn : 2 < nL) (k : VZ M A nL kc ks Q Z (pc + 1) (x0 :: x1 :: some .null :: t) st) : VZ M A nL kc ks Q Z pc (x0 :: x1 :: y :: t) (.null :: st) := fun H locs ls hP hS hl => lv_astore_nN (lv' := ((2, Value.null) :: (asc 0 (x0 :: x1 :: y :: t)).filter _)) K.ex K.cd d rfl hl hn rfl (fun ls' hl' => k H locs ls' hP hS (lvL_set1 (L := (x0 :: x1 :: y :: t)) (i := 2) hb hl'))
theorem z_aldN2 {x0 x1 : Option Value} {t : List (Option Value)} (K : OKz M cc own nL) (d : decode cc pc = .ok (.aload_n 2, 1)) (k : VZ M A nL kc ks Q Z (pc + 1) (x0 :: x1 :: some .null :: t) (.null :: st)) : VZ M A nL kc ks Q Z pc (x0 :: x1 :: some .null :: t) st := fun H locs ls hP hS hl => lv_aload_nN K.ex K.cd d rfl (lvL_at hl rfl) (k H locs ls hP hS hl)
theorem z_throw {cls text : String} {ik is ic : Nat} {Qc : Array Value → State → Outcome → State → Prop} {XC : String → State → State → Prop} (K : OKq M E A nL cc own rt base fr lo 1 6) (hN : NoH M) (w : TW own cls ik ic) (hst : (own, is, text) ∈ gStr)
    (d0 : decode cc pc = .ok (.new ik, 3)) (d3 : decode cc (pc + 3) = .ok (.dup, 1)) (d4 : decode cc (pc + 4) = .ok (.ldc_w is, 3)) (d7 : decode cc (pc + 7) = .ok (.invokespecial ic, 3)) (d10 : decode cc (pc + 10) = .ok (.athrow, 1))
    (hf : 6 ≤ fr) (hlo : 100 ≤ lo) (hx : ∀ (H : Heap) (t : State), Z H → (∀ q : Nat, q < H.size → t.heap[q]? = H[q]?) → va_F A M.2.2.2.2.1 t → XC cls M.2.2.2.2.1 t) : VZ M A nL 0 0 (vx_MQ M.2.2.2.2.2.2.2.1 Qc XC M.2.2.2.2.2.2.1 M.2.2.2.2.1 1 6 A) Z pc L [] := by
  intro H locs ls hP hS hl
  obtain ⟨w1, w2, w3, w4, w5, w6⟩ := w
  obtain ⟨a1, a2, a3, a4, a5, a6, a7⟩ := K.am.1
  obtain ⟨sa, hsa⟩ := a4 _ hst
  have hA : ∀ q, A q → base ≤ q := K.Ab
  have hf1 : ["java/lang/RuntimeException", "java/lang/Exception"].length + 3 < M.2.2.2.1.frames := Nat.lt_of_lt_of_le (by decide) (Nat.le_trans hf K.frm)
  have hl1 : (([] : List Value).map fun v => v.category).sum + (13 * (["java/lang/RuntimeException", "java/lang/Exception"].length + 1) + 43) ≤ M.2.2.2.1.locals := Nat.le_trans (by decide) (Nat.le_trans hlo K.loc)
  refine vx_throwSW (names := ["java/lang/RuntimeException", "java/lang/Exception"]) (cls := cls) K.z.ex K.z.cd K.nt K.z.ow w1 (by intro n hn; simp at hn; rcases hn with rfl | rfl <;> decide) (K.z.ts _ w2) (K.z.ts _ w3) hsa (fun w hw => ?_) w6 (vx_Zq.narrow a2 hA) (vx_Zq.narrow a3 hA) hS (by rw [K.z.ml]; exact hl.1) d0 d3 d4 d7 d10 (fun x hx => (hN x hx).elim) hf1 hl1 K.ce K.sl K.z.lk (fun t ht h1 h2 => ?_) hS.2.2 (Nat.le_refl 1) (Nat.le_refl 6)
  · rcases w5 w hw with h | h | h
    · exact K.z.ts _ h
    · rw [h]; exact va_Nw.use rfl (a6 _ w4)
    · obtain ⟨x, hx, rfl⟩ := List.mem_map.mp h
      exact va_Nw.use rfl (a7 _ hx)
  · refine hx H t hP h2 ⟨Nat.le_trans hS.1 h1, fun q hq hn => ?_⟩
    rw [h2 q (Nat.lt_of_lt_of_le hq hS.1)]
    exact hS.2.1 q hq hn
end BK
theorem back_ok (l : Launch) (hnt : l.stackTraces = false) {E : Ev} {base : Nat} {I : Im} (hA : AS E I base) (σ : St) (k : Int32) (j : Nat) (hj : ix k 2 = some j) (ad : Nat → Nat) (τ : St) (hI : I j = some (ad, τ)) : ICtr l yX3_back (.code yX3_back cX3_back 3 (some .int)) 7 120 E base [.ref (E.2.2 0), .int k] σ I (τ.1 0 0) (ub σ τ) (fun I' => I' = I) := by
  have hj2 : j < 2 := ix_lt hj
  have hE : Adr YB (eB2 E (aT E) ad) base := AdrOf hA _ (xiB hj2 hI).2 (fun i k hi hk e => by
    have : i < 36 := hi
    have : k < 36 := hk
    split at e <;> split at e <;> omega)
  refine ofI 1 (by decide +kernel) rfl hA hnt (Nat.le_of_ble_eq_true rfl) rfl (fun M K => ?_)
  refine z_iload1 (pc := 0) K.z dX3_back_0 ?_
  refine z_callS (pc := 1) (Y' := YC) (ad' := E.2.2) (n := 1) (As := [.int k]) (rest := []) (v := none) (τ := σ) (τ1 := σ) (Z1 := WP E σ I) K ca_yX3_needImage ml_RX3_282 (t_X3_needImage _ K.nt (AdrOC hA.O) σ k (.ok ()) σ (need_ok hj)) rfl rfl (Nat.le_of_ble_eq_true rfl) (by decide) (by decide) (by decide) (by decide) dX3_back_1 (fun H h => YO_down h.1) (fun i hi => mem_AI (adx_lo (Nat.lt_trans hi (by decide)))) (fun H H1 h h1 hk _ => by have h9 := h.C hA h1 hk; rw [mgO_self] at h9; exact h9) ?_
  refine z_aload0 (pc := 4) K.z dX3_back_4 ?_
  refine z_get (pc := 5) (v := .ref (E.2.2 40)) K fl_RX3_18 dX3_back_5 (fun H h => h.obj) rfl ?_
  refine z_iload1 (pc := 8) K.z dX3_back_8 ?_
  refine z_img (pc := 9) (v := .ref (ad 0)) K dX3_back_9 hj (by rw [hI]; rfl) ?_
  refine z_astore2 (pc := 10) K.z dX3_back_10 rfl (by decide) ?_
  refine z_aload2 (pc := 11) K.z dX3_back_11 ?_
  refine z_nonnull (pc := 12) (tgt := 26) K.z dX3_back_12 (by decide) ?_
  refine z_aload0 (pc := 26) K.z dX3_back_26 ?_
  refine z_get (pc := 27) (v := .ref (E.2.2 1)) K fl_RX3_14 dX3_back_27 (fun H h => h.obj) rfl ?_
  refine z_aload2 (pc := 30) K.z dX3_back_30 ?_
  refine z_callV (pc := 31) (Y' := YB) (ad' := (eB2 E (aT E) ad).2.2) (i := 0) (ci := 1) (n := 1) (As := [.ref (ad 0)]) (rest := []) (v := none) (τ := sB2 (tb σ) τ) (τ1 := likeR (sB2 (tb σ) τ)) (Z1 := WP E (ub σ τ) I) K ca_yX1_becomeLike ml_RX3_285 (by decide) rfl rfl (t_X1_becomeLike _ K.nt hE _ _ (like_eq _)) rfl rfl (Nat.le_of_ble_eq_true rfl) (by decide) (by decide) (by decide) (by decide) dX3_back_31 (fun H h => wsB h.two (h.2.2 j ad τ hj2 hI)) (fun i hi => mem_AI ((xiB hj2 hI).2 i hi)) (fun H H1 h h1 hk _ => h.B hA hj2 hI h1 hk) ?_
  refine z_aload0 (pc := 34) K.z dX3_back_34 ?_
  refine z_get (pc := 35) (v := .ref (E.2.2 1)) K fl_RX3_14 dX3_back_35 (fun H h => h.obj) rfl ?_
  refine z_get (pc := 38) (v := .int (τ.1 0 0)) K fl_RX3_76 dX3_back_38 (fun H h => h.tab) rfl ?_
  exact z_iret (pc := 41) K dX3_back_41 (by decide) (by decide) (fun H t ht hW hF => ⟨⟨I, rfl, rfl, by rw [ht]; exact hW, hA, fun n q h => mem_AI h⟩, hF⟩)
/-- a contract that ends in a throw, over the class, its images and the out array -/
def XCtr (l : Launch) (y : MethodName) (cc : ByteArray) (nL fr lo : Nat) (E : Ev) (base : Nat) (av : List Value) (σ : St) (I : Im) (En : String) : Prop :=
  ∀ sz : Nat, vx_Met l y (.code y cc nL (some .int) :: Gw) { frames := fr, cells := 1, slots := 6, locals := lo } (va_Pc av (fun U => U.heap.size = sz ∧ base ≤ sz ∧ WP E σ I U.heap ∧ AmbK E base U)) (fun _ _ _ _ => False) (fun En' st t => En' = En ∧ WP E σ I t.heap ∧ va_F (AI E I sz) st t) 1 6 (AI E I sz)
abbrev iseN : String := "java/lang/IllegalStateException"
abbrev ioobN : String := "java/lang/IndexOutOfBoundsException"
theorem back_ise (l : Launch) (hnt : l.stackTraces = false) {E : Ev} {base : Nat} {I : Im} (hA : AS E I base) (σ : St) (k : Int32) (j : Nat) (hj : ix k 2 = some j) (hI : I j = none) : XCtr l yX3_back cX3_back 3 7 120 E base [.ref (E.2.2 0), .int k] σ I iseN := by
  intro sz
  refine vx_ofWF (cc := cX3_back) (maxL := 3) (ret := some .int) (by decide +kernel) rfl ?_
  intro p e s m args below meth c s₁ B hml ht hv
  obtain ⟨rfl, hsz, hb, hP, hK⟩ := hv
  subst hsz
  have hts : ∀ w ∈ Gw, w.before ([.ref (E.2.2 0), .int k] : List Value).toArray s = true := fun w hw => atoms_spec (ws := Cond.code yX3_back cX3_back 3 (some .int) :: Gw) B.pre w (List.mem_cons_of_mem _ hw)
  have K : OKq (p, l, e, { frames := 7, cells := 1, slots := 6, locals := 120 }, s, m, ([.ref (E.2.2 0), .int k] : List Value).toArray, below, meth, c) E (AI E I s.heap.size) 3 cX3_back RX3 (some .int) base 7 120 1 6 := ⟨⟨B.exec, B.bytes, hml, B.notSynchronized, findClass_of_methodNamed B.named, hts⟩, B.returns, hK, fun q h => Or.inr h, hb, fun q h => AI_base hA hb h, Nat.le_refl _, Nat.le_refl _, Nat.le_refl _, Nat.le_refl _, hnt⟩
  have hN : NoH (p, l, e, ({ frames := 7, cells := 1, slots := 6, locals := 120 } : Room), s, m, ([.ref (E.2.2 0), .int k] : List Value).toArray, below, meth, c) := ht
  have hk : VZ (p, l, e, { frames := 7, cells := 1, slots := 6, locals := 120 }, s, m, ([.ref (E.2.2 0), .int k] : List Value).toArray, below, meth, c) (AI E I s.heap.size) 3 0 0 (vx_MQ below (fun _ _ _ _ => False) (fun En' st t => En' = iseN ∧ WP E σ I t.heap ∧ va_F (AI E I s.heap.size) st t) ([.ref (E.2.2 0), .int k] : List Value).toArray s 1 6 (AI E I s.heap.size)) (WP E σ I) 0 [some (.ref (E.2.2 0)), some (.int k), none] [] := by
    refine z_iload1 (pc := 0) K.z dX3_back_0 ?_
    refine z_callS (pc := 1) (Y' := YC) (ad' := E.2.2) (n := 1) (As := [.int k]) (rest := []) (v := none) (τ := σ) (τ1 := σ) (Z1 := WP E σ I) K ca_yX3_needImage ml_RX3_282 (t_X3_needImage _ K.nt (AdrOC hA.O) σ k (.ok ()) σ (need_ok hj)) rfl rfl (Nat.le_of_ble_eq_true rfl) (by decide) (by decide) (by decide) (by decide) dX3_back_1 (fun H h => YO_down h.1) (fun i hi => mem_AI (adx_lo (Nat.lt_trans hi (by decide)))) (fun H H1 h h1 hk _ => by have h9 := h.C hA h1 hk; rw [mgO_self] at h9; exact h9) ?_
    refine z_aload0 (pc := 4) K.z dX3_back_4 ?_
    refine z_get (pc := 5) (v := .ref (E.2.2 40)) K fl_RX3_18 dX3_back_5 (fun H h => h.obj) rfl ?_
    refine z_iload1 (pc := 8) K.z dX3_back_8 ?_
    refine z_img (pc := 9) (v := .null) K dX3_back_9 hj (by rw [hI]; rfl) ?_
    refine z_astN2 (pc := 10) K.z dX3_back_10 rfl (by decide) ?_
    refine z_aldN2 (pc := 11) K.z dX3_back_11 ?_
    refine z_nonnullN (pc := 12) K.z dX3_back_12 ?_
    exact z_throw (pc := 15) (text := "the image was not kept") K hN tw_IllegalStateException (by decide +kernel) dX3_back_15 dX3_back_18 dX3_back_19 dX3_back_22 dX3_back_25 (by decide) (by decide) (fun H t h h2 hF => ⟨rfl, h.kept (fun n a ha => h2 a (h.lt ha)), hF⟩)
  rw [lg_entry_eq]
  refine hk s.heap [] _ hP va_S.rf ?_
  have hl := lv_entry [.ref (E.2.2 0), .int k] (n := 3) (Nat.le_of_ble_eq_true rfl)
  unfold lvL
  exact hl
theorem need_e {σ : St} {k : Int32} (h : ix k 2 = none) : c_X3_needImage σ k = some (.error ioobN, σ) := by
  unfold ix at h
  unfold c_X3_needImage
  split at h
  · rename_i h1
    by_cases h0 : k < 0
    · rw [if_pos h0]
    · rw [if_neg h0, if_neg]
      rcases h1 with h1 | h1
      · exact absurd h1 h0
      · rw [Int32.lt_iff_toInt_lt]
        have h5 : 2 ≤ k.toInt.toNat := h1
        have h6 : (2 : Int32).toInt = 2 := by decide
        omega
  · cases h
theorem t_keep_e1 (l : Launch) (hnt : l.stackTraces = false) {E : Ev} {base : Nat} (hE : Adr YC E base) (σ : St) (k : Int32) (h : ix k 2 = none) : Ctr l yX3_keep cX3_keep 2 (some .int) 7 120 YC E base [.ref (E.2.2 0), .int k] σ (.error ioobN) σ := by
  refine ofV 0 (by decide +kernel) rfl hE hnt (Nat.le_of_ble_eq_true rfl) rfl (fun M hN K => ?_)
  refine v_iload1 (pc := 0) K dX3_keep_0 ?_
  exact v_cS1X (pc := 1) K ca_yX3_needImage ml_RX3_282 (t_X3_needImage _ K.nt K.ad σ k (.error ioobN) _ (need_e h)) (Nat.le_of_ble_eq_true rfl) (by decide) (by decide) dX3_keep_1 hN rfl rfl
theorem t_back_e1 (l : Launch) (hnt : l.stackTraces = false) {E : Ev} {base : Nat} (hE : Adr YC E base) (σ : St) (k : Int32) (h : ix k 2 = none) : Ctr l yX3_back cX3_back 3 (some .int) 7 120 YC E base [.ref (E.2.2 0), .int k] σ (.error ioobN) σ := by
  refine ofV 1 (by decide +kernel) rfl hE hnt (Nat.le_of_ble_eq_true rfl) rfl (fun M hN K => ?_)
  refine v_iload1 (pc := 0) K dX3_back_0 ?_
  exact v_cS1X (pc := 1) K ca_yX3_needImage ml_RX3_282 (t_X3_needImage _ K.nt K.ad σ k (.error ioobN) _ (need_e h)) (Nat.le_of_ble_eq_true rfl) (by decide) (by decide) dX3_back_1 hN rfl rfl
