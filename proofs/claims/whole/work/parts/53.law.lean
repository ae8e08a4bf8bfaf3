/-! the law's own walk: the class's world, its images, the out array, the reference's world, the script -/
def Wl (E : Ev) (am : Nat → Nat) (σ : St) (I : Im) (μ : St) (H : Heap) : Prop := WP E σ I H ∧ va_P E.1 vcl (wsOf YM (eT E am) μ) H
def DJ (E : Ev) (am : Nat → Nat) (I : Im) (base : Nat) : Prop := AS E I base ∧ Adr YM (eT E am) base ∧ ∀ n a i, adx E I n = some a → i < 20 → am i ≠ a
abbrev bA (base : Nat) : Nat → Prop := fun q => base ≤ q
def OKl (M : MT) (E : Ev) (b Ln : Nat) (xs : Nat → Int32) (base : Nat) : Prop := OKq M E (bA base) 8 cL_law RL (some .boolean) base 21 10880 603072 7211114 ∧ NcG M.2.2.2.2.1 ∧ va_X b Ln xs M.2.2.2.2.1 M.2.2.2.2.1.heap ∧ b < M.2.2.2.2.1.heap.size ∧ base = M.2.2.2.2.1.heap.size ∧ Ln ≤ 4096
theorem nI_pl (n j : Nat) : nI n + nI j = nI (n + j) := (Int32.ofNat_add n j).symm
theorem nI_nat {n : Nat} (h : n < 2 ^ 31) : (nI n).toNatClampNeg = n := by
  show (nI n).toInt.toNat = n
  rw [nI_toInt h]
  omega
theorem nI_nn {n : Nat} (h : n < 2 ^ 31) : ¬ nI n < 0 := by
  rw [Int32.lt_iff_toInt_lt, nI_toInt h]
  have h6 : (0 : Int32).toInt = 0 := by decide
  omega
def CalW (y : MethodName) (cc : ByteArray) (nL : Nat) (hh : List (Nat × Nat × Nat × Nat)) (n : Nat) : Prop := Cond.codeWith y cc nL (some .int) hh ∈ Gw ∧ Cond.static y ∈ Gw ∧ Cond.initialized y.cls ∈ Gw ∧ y.cls ≠ "java/lang/invoke/MethodHandle" ∧ y.cls ≠ "java/lang/invoke/VarHandle" ∧ (parseMethodDescriptor y.desc).map (fun d => d.parameters.length) = some n
theorem NcG.moved {u U : State} (hv : u.vm.Alike U.vm) (h : NcG u) : NcG U := fun q hq => va_Nc.moved hv (h q hq)
section LW
variable {M : MT} {E : Ev} {b Ln : Nat} {xs : Nat → Int32} {base kc ks : Nat} {Q : State → Prop} {Z : Heap → Prop} {am : Nat → Nat} {σ σ1 μ μ1 : St} {I : Im} {pc : Nat} {L : List (Option Value)} {st : List Value}
theorem OKl.q (K : OKl M E b Ln xs base) : OKq M E (bA base) 8 cL_law RL (some .boolean) base 21 10880 603072 7211114 := K.1
theorem OKl.z (K : OKl M E b Ln xs base) : OKz M cL_law RL 8 := K.1.1
theorem OKl.nc (K : OKl M E b Ln xs base) : NcG M.2.2.2.2.1 := K.2.1
theorem OKl.x (K : OKl M E b Ln xs base) : va_X b Ln xs M.2.2.2.2.1 M.2.2.2.2.1.heap := K.2.2.1
theorem OKl.bl (K : OKl M E b Ln xs base) : b < M.2.2.2.2.1.heap.size := K.2.2.2.1
theorem OKl.be (K : OKl M E b Ln xs base) : base = M.2.2.2.2.1.heap.size := K.2.2.2.2.1
theorem OKl.ln (K : OKl M E b Ln xs base) : Ln ≤ 4096 := K.2.2.2.2.2
theorem OKl.nb (K : OKl M E b Ln xs base) : ¬ bA base b := fun h => by
  have h1 := K.bl
  have h2 := K.be
  have h3 : base ≤ b := h
  omega
theorem OKl.in (K : OKl M E b Ln xs base) {n : Nat} (h : n < Ln) : vp_in (nI n) Ln ∧ (nI n).toNatClampNeg = n := by
  have h1 := K.ln
  have h2 : n < 2 ^ 31 := by omega
  refine ⟨fun q => ?_, nI_nat h2⟩
  rcases q with q | q
  · exact nI_nn h2 q
  · rw [nI_nat h2] at q
    omega
theorem z_sl0 {n : Nat} (K : OKl M E b Ln xs base) (d : decode cL_law pc = .ok (.iaload, 1)) (hn : n < Ln) (kk : VZ M (bA base) 8 kc ks Q Z (pc + 1) L (.int (xs n) :: st)) : VZ M (bA base) 8 kc ks Q Z pc L (.int (nI n) :: .ref b :: st) := by
  intro H locs ls hP hS hl
  obtain ⟨h1, h2⟩ := K.in hn
  exact va_sld K.z.ex K.z.cd K.x K.bl K.nb hS h1 d (by rw [h2]; exact kk H locs ls hP hS hl)
theorem z_sld {n : Nat} {w : Int32} (j : Nat) (K : OKl M E b Ln xs base) (d : decode cL_law pc = .ok (.iaload, 1)) (hw : w = nI j) (hn : n + j < Ln) (kk : VZ M (bA base) 8 kc ks Q Z (pc + 1) L (.int (xs (n + j)) :: st)) : VZ M (bA base) 8 kc ks Q Z pc L (.int (nI n + w) :: .ref b :: st) := by
  rw [hw, nI_pl]
  exact z_sl0 K d hn kk
theorem z_slen (K : OKl M E b Ln xs base) (d : decode cL_law pc = .ok (.arraylength, 1)) (kk : VZ M (bA base) 8 kc ks Q Z (pc + 1) L (.int (nI Ln) :: st)) : VZ M (bA base) 8 kc ks Q Z pc L (.ref b :: st) :=
  fun H locs ls hP hS hl => va_slen K.z.ex K.z.cd K.x K.bl K.nb hS d (kk H locs ls hP hS hl)
theorem z_lout (K : OKl M E b Ln xs base) (d : decode cL_law pc = .ok (.laload, 1)) (kk : VZ M (bA base) 8 kc ks Q (Wl E am σ I μ) (pc + 1) L (.long (σ.2 28 0) :: st)) : VZ M (bA base) 8 kc ks Q (Wl E am σ I μ) pc L (.int 0 :: .ref (E.2.2 28) :: st) := by
  intro H locs ls hP hS hl
  exact va_lald (D := E.1) (ws := wsOf YO E σ) (f := σ.2 28) (n := 1) K.z.ex K.z.cd K.q.am.1.1 hP.1.1 28 0 (by rw [ws_get (by decide), cell_L rfl]) rfl (ix_in ix01) d (by rw [ix_eq ix01]; exact kk H locs ls hP hS hl)
/-- what a part's call leaves alone -/
theorem DJ.mk (h : DJ E am I base) {H : Heap} (hM : va_P E.1 vcl (wsOf YM (eT E am) μ) H) {i : Nat} (hi : i < 20) : ¬ AI E I H.size (am i) := by
  rintro (⟨n, e⟩ | e)
  · exact h.2.2 n _ i e hi rfl
  · have h1 := (wsP.mp hM i hi).lt
    have h2 : am i < H.size := h1
    omega
theorem Wl.mod {H H1 : Heap} (h : va_P E.1 vcl (wsOf YM (eT E am) μ) H) (hk : ∀ i, i < 20 → H1[am i]? = H[am i]?) : va_P E.1 vcl (wsOf YM (eT E am) μ) H1 := wsP.mpr fun i hi => (wsP.mp h i hi).kept (hk i hi)
/-- the class's own method -/
theorem z_lC {y : MethodName} {cc' : ByteArray} {nL' fr' lo' n index Nn : Nat} {rt' : Option FieldType} {T : u_T} {As rest st0 : List Value} {v : Option Value} (K : OKl M E b Ln xs base) (hD : DJ E am I base) (cv : CalV y cc' nL' rt' n) (hlk : Cond.methodLink RL index y ∈ Gw) (hc : vcl[3]? = some (y.cls, T, Nn))
    (hM : Ctr M.2.1 y cc' nL' rt' fr' lo' YC E base (.ref (E.2.2 0) :: As) σ (.ok v) σ1) (hn : As.length = n) (hst : st0 = As.reverse ++ .ref (E.2.2 0) :: rest) (hrm : (rest.map fun v => v.category).sum ≤ 8) (hfr : fr' + 1 ≤ 21) (hlo : 8 + (nL' + 11) + lo' ≤ 10880) (h1 : kc ≤ 603072) (h2 : ks ≤ 7211114) (d : decode cL_law pc = .ok (.invokevirtual index, 3))
    (kv : VZ M (bA base) 8 kc ks Q (Wl E am (mgO σ1 σ) I μ) (pc + 3) L (v.toList ++ rest)) : VZ M (bA base) 8 kc ks Q (Wl E am σ I μ) pc L st0 := by
  refine z_callV (Y' := YC) (ad' := E.2.2) (i := 0) (ci := 3) (Z1 := Wl E am (mgO σ1 σ) I μ) K.q cv hlk (by decide) rfl hc hM hn hst hrm hfr hlo h1 h2 d (fun H h => YO_down h.1.1) (fun i hi => hD.1.2 i _ (adx_lo (Nat.lt_trans hi (by decide)))) (fun H H1 h h1 hk _ => ⟨h.1.C hD.1 h1 hk, Wl.mod h.2 (fun i hi => hk _ (wsP.mp h.2 i hi).lt (fun q => hD.mk h.2 hi (q.elim (fun ⟨j, a1, a2⟩ => Or.inl ⟨j, by rw [← a2]; exact adx_lo (Nat.lt_trans a1 (by decide))⟩) Or.inr)))⟩) kv
/-- the reference's method -/
theorem z_lM {y : MethodName} {cc' : ByteArray} {nL' fr' lo' n index Nn : Nat} {rt' : Option FieldType} {T : u_T} {As rest st0 : List Value} {v : Option Value} (K : OKl M E b Ln xs base) (hD : DJ E am I base) (cv : CalV y cc' nL' rt' n) (hlk : Cond.methodLink RL index y ∈ Gw) (hc : vcl[4]? = some (y.cls, T, Nn))
    (hM : Ctr M.2.1 y cc' nL' rt' fr' lo' YM (eT E am) base (.ref (am 0) :: As) μ (.ok v) μ1) (hn : As.length = n) (hst : st0 = As.reverse ++ .ref (am 0) :: rest) (hrm : (rest.map fun v => v.category).sum ≤ 8) (hfr : fr' + 1 ≤ 21) (hlo : 8 + (nL' + 11) + lo' ≤ 10880) (h1 : kc ≤ 603072) (h2 : ks ≤ 7211114) (d : decode cL_law pc = .ok (.invokevirtual index, 3))
    (kv : VZ M (bA base) 8 kc ks Q (Wl E am σ I μ1) (pc + 3) L (v.toList ++ rest)) : VZ M (bA base) 8 kc ks Q (Wl E am σ I μ) pc L st0 := by
  refine z_callV (Y' := YM) (ad' := am) (i := 0) (ci := 4) (Z1 := Wl E am σ I μ1) K.q cv hlk (by decide) rfl hc hM hn hst hrm hfr hlo h1 h2 d (fun H h => h.2) (fun i hi => hD.2.1.2 i hi) (fun H H1 h h1 hk _ => ⟨h.1.kept (fun n a ha => hk a (h.1.lt ha) (fun q => q.elim (fun ⟨j, a1, a2⟩ => hD.2.2 n a j ha a1 a2) (fun e => by have := h.1.lt ha; omega))), h1⟩) kv
/-- a little method: what both kinds come to -/
theorem z_lrun {σ' : St} {k : Int32} {pI : Im → Prop} {st0 rest As : List Value} {y : MethodName} {cc' : ByteArray} {nL' fr' lo' n index : Nat} {hh : List (Nat × Nat × Nat × Nat)} (K : OKl M E b Ln xs base) (hD : DJ E am I base) (cv : CalW y cc' nL' hh n) (hlk : Cond.methodLink RL index y ∈ Gw)
    (hM : LCtr M.2.1 y cc' nL' hh fr' lo' E base As σ I k σ' pI) (hn : As.length = n) (hst : st0 = As.reverse ++ rest) (hrm : (rest.map fun v => v.category).sum ≤ 8) (hfr : fr' + 1 ≤ 21) (hlo : 8 + (nL' + 11) + lo' ≤ 10880) (h1 : kc + 20 ≤ 603072) (h2 : ks + 1300 ≤ 7211114) (d : decode cL_law pc = .ok (.invokestatic index, 3))
    (kv : ∀ I', pI I' → DJ E am I' base → VZ M (bA base) 8 (kc + 20) (ks + 1300) Q (Wl E am σ' I' μ) (pc + 3) L (.int k :: rest)) : VZ M (bA base) 8 kc ks Q (Wl E am σ I μ) pc L st0 := by
  intro H locs ls hP hS hl
  obtain ⟨c1, c2, c4, c5, c6, c7⟩ := cv
  have hr : va_Run M.1 M.2.1 M.2.2.1 M.2.2.2.1 M.2.2.2.2.1 M.2.2.2.2.2.1 M.2.2.2.2.2.2.1 M.2.2.2.2.2.2.2.1 M.2.2.2.2.2.2.2.2.1 M.2.2.2.2.2.2.2.2.2 H locs kc ks 20 1300 (F0 M.2.2.2.2.2.1 pc ls st0) rest (qI E I base H.size k σ' pI As.toArray) (AI E I H.size) := by
    refine vx_runSW (Ts := Cond.codeWith y cc' nL' (some .int) hh :: Gw) (bytes := cc') (maxL := nL') (ret := some .int) (hh := hh) (n := n) (own := RL) (index := index) (As := As) ⟨K.z.ex, K.z.cd, K.z.ml, K.z.ow, fun w hw => (List.mem_cons.mp hw).elim (fun q => by rw [q]; exact K.z.ts _ c1) (K.z.ts w)⟩ (hM H.size) ⟨⟨rfl, rfl, Nat.le_trans hfr K.q.frm, Nat.le_trans hlo K.q.loc, pay_in (fun w hw => (List.mem_cons.mp hw).elim (fun q => by rw [q]; exact K.z.ts _ c1) (K.z.ts w)) (good_cg (c0 := Cond.codeWith y cc' nL' (some .int) hh) c1), List.mem_cons_self⟩, K.z.ts _ c1, K.z.ts _ c4, ⟨c5, c6⟩, fun sig h => ?_, K.z.ts _ hlk, K.z.ts _ c2⟩ ⟨fun a U g mk q => ⟨q.1, q.2.1, q.2.2.1, q.2.2.2.1, AmbK.same q.2.2.2.2.1 rfl rfl, NcG.moved (Vm.Alike.refl _) q.2.2.2.2.2⟩, fun U hU hW => ⟨rfl, by rw [hU], Nat.le_trans K.q.bs hS.1, by rw [hU]; exact hP.1, AmbK.go K.q.am hW (fun a h1 h2 => ?_), NcG.moved hW.alike K.nc⟩⟩ rfl hn hl.1 hst (lv_room hrm) d ⟨Nat.le_trans h1 K.q.ce, Nat.le_trans h2 K.q.sl⟩
    · rw [h] at c7
      exact (Option.some.inj c7).symm
    · rw [hU]
      exact hS.2.1 a h1 (fun q => h2 q)
  intro T hT Xs
  obtain ⟨v, st₀, t, T', L2, h0, X', hL, e1, e2, ⟨⟨I', ho, hp, hW, hA', hai⟩, hF⟩, stp⟩ := hr T hT Xs
  cases ho
  obtain ⟨k1, k2, k3⟩ := vx_keep h0 e1 hS (fun q _ h => AI_A K.q (fun n a h => hD.1.2 n a h) hS.1 h) (fun q h => AI_A K.q (fun n a h => hD.1.2 n a h) hS.1 h) hL hF
  have hD' : DJ E am I' base := ⟨hA', hD.2.1, fun n a i ha hi e => hD.mk hP.2 hi (by rw [e]; exact hai n a ha)⟩
  obtain ⟨t2, a1, b1⟩ := kv I' hp hD' T'.heap (locs ++ L2) ls ⟨by rw [e1]; exact hW, Wl.mod hP.2 (fun i hi => k2 _ (wsP.mp hP.2 i hi).lt (hD.mk hP.2 hi))⟩ k3 hl T' rfl X'
  exact ⟨t2, stp t2 a1, b1⟩
/-- a little method that leaves the images alone -/
theorem z_lW {σ' : St} {k : Int32} {st0 rest As : List Value} {y : MethodName} {cc' : ByteArray} {nL' fr' lo' n index : Nat} {hh : List (Nat × Nat × Nat × Nat)} (K : OKl M E b Ln xs base) (hD : DJ E am I base) (cv : CalW y cc' nL' hh n) (hlk : Cond.methodLink RL index y ∈ Gw)
    (hM : WCtr M.2.1 y cc' nL' hh fr' lo' E base As σ k σ') (hn : As.length = n) (hst : st0 = As.reverse ++ rest) (hrm : (rest.map fun v => v.category).sum ≤ 8) (hfr : fr' + 1 ≤ 21) (hlo : 8 + (nL' + 11) + lo' ≤ 10880) (h1 : kc + 20 ≤ 603072) (h2 : ks + 1300 ≤ 7211114) (d : decode cL_law pc = .ok (.invokestatic index, 3))
    (kv : VZ M (bA base) 8 (kc + 20) (ks + 1300) Q (Wl E am σ' I μ) (pc + 3) L (.int k :: rest)) : VZ M (bA base) 8 kc ks Q (Wl E am σ I μ) pc L st0 := by
  intro H locs ls hP hS hl
  obtain ⟨c1, c2, c4, c5, c6, c7⟩ := cv
  have hr : va_Run M.1 M.2.1 M.2.2.1 M.2.2.2.1 M.2.2.2.2.1 M.2.2.2.2.2.1 M.2.2.2.2.2.2.1 M.2.2.2.2.2.2.2.1 M.2.2.2.2.2.2.2.2.1 M.2.2.2.2.2.2.2.2.2 H locs kc ks 20 1300 (F0 M.2.2.2.2.2.1 pc ls st0) rest (wQ YO E σ' k H.size As.toArray) (Ax YO E H.size) := by
    refine vx_runSW (Ts := Cond.codeWith y cc' nL' (some .int) hh :: Gw) (bytes := cc') (maxL := nL') (ret := some .int) (hh := hh) (n := n) (own := RL) (index := index) (As := As) ⟨K.z.ex, K.z.cd, K.z.ml, K.z.ow, fun w hw => (List.mem_cons.mp hw).elim (fun q => by rw [q]; exact K.z.ts _ c1) (K.z.ts w)⟩ (hM H.size) ⟨⟨rfl, rfl, Nat.le_trans hfr K.q.frm, Nat.le_trans hlo K.q.loc, pay_in (fun w hw => (List.mem_cons.mp hw).elim (fun q => by rw [q]; exact K.z.ts _ c1) (K.z.ts w)) (good_cg (c0 := Cond.codeWith y cc' nL' (some .int) hh) c1), List.mem_cons_self⟩, K.z.ts _ c1, K.z.ts _ c4, ⟨c5, c6⟩, fun sig h => ?_, K.z.ts _ hlk, K.z.ts _ c2⟩ ⟨fun a U g mk q => ⟨q.1, q.2.1, q.2.2.1, q.2.2.2.1, Amb.same q.2.2.2.2.1 rfl rfl, NcG.moved (Vm.Alike.refl _) q.2.2.2.2.2⟩, fun U hU hW => ⟨rfl, by rw [hU], Nat.le_trans K.q.bs hS.1, by rw [hU]; exact hP.1.1, Amb.go K.q.am.1 hW (fun a h1 h2 => ?_), NcG.moved hW.alike K.nc⟩⟩ rfl hn hl.1 hst (lv_room hrm) d ⟨Nat.le_trans h1 K.q.ce, Nat.le_trans h2 K.q.sl⟩
    · rw [h] at c7
      exact (Option.some.inj c7).symm
    · rw [hU]
      exact hS.2.1 a h1 (fun q => h2 q)
  have hAx : ∀ q, Ax YO E H.size q → AI E I H.size q := fun q h => h.elim (fun ⟨j, a1, a2⟩ => Or.inl ⟨j, by rw [← a2]; exact adx_lo a1⟩) Or.inr
  have hAb : ∀ q, Ax YO E H.size q → bA base q := fun q h => AI_A K.q (fun n a h => hD.1.2 n a h) hS.1 (hAx q h)
  intro T hT Xs
  obtain ⟨v, st₀, t, T', L2, h0, X', hL, e1, e2, ⟨⟨ho, hp⟩, hF⟩, stp⟩ := hr T hT Xs
  cases ho
  obtain ⟨k1, k2, k3⟩ := vx_keep h0 e1 hS (fun q _ h => hAb q h) hAb hL hF
  obtain ⟨t2, a1, b1⟩ := kv T'.heap (locs ++ L2) ls ⟨hP.1.O hD.1 (by rw [e1]; exact hp) k2, Wl.mod hP.2 (fun i hi => k2 _ (wsP.mp hP.2 i hi).lt (fun q => hD.mk hP.2 hi (hAx _ q)))⟩ k3 hl T' rfl X'
  exact ⟨t2, stp t2 a1, b1⟩
end LW
