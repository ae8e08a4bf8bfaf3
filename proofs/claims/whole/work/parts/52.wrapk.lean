/-! the law's little methods keep and back, over the images -/
section WK
variable {M : MT} {E : Ev} {A : Nat → Prop} {nL kc ks : Nat} {Q : State → Prop} {Z : Heap → Prop} {Z1 : Im → Heap → Prop} {cc : ByteArray} {own : String} {rt : Option FieldType} {base fr lo mc ms pc : Nat} {L : List (Option Value)} {st : List Value}
theorem AI_A {I : Im} {sz : Nat} (K : OKq M E A nL cc own rt base fr lo mc ms) (hAd : ∀ n a, adx E I n = some a → A a) (hs : M.2.2.2.2.1.heap.size ≤ sz) {q : Nat} (h : AI E I sz q) : A q := h.elim (fun ⟨n, e⟩ => hAd n q e) (fun e => K.hA _ (Nat.le_trans hs e))
/-- behind a call over the class, its images and the out array -/
theorem z_runI {σ' : St} {I : Im} {k : Int32} {pI : Im → Prop} {H : Heap} {locs : List Loc} {ls : Array Slot} {st0 rest : List Value} {a : Array Value} (K : OKq M E A nL cc own rt base fr lo mc ms) (hAd : ∀ n a, adx E I n = some a → A a) (hS : va_S A M.2.2.2.2.1.heap H locs) (hl : lvL ls nL L)
    (hr : va_Run M.1 M.2.1 M.2.2.1 M.2.2.2.1 M.2.2.2.2.1 M.2.2.2.2.2.1 M.2.2.2.2.2.2.1 M.2.2.2.2.2.2.2.1 M.2.2.2.2.2.2.2.2.1 M.2.2.2.2.2.2.2.2.2 H locs kc ks 20 1300 (F0 M.2.2.2.2.2.1 pc ls st0) rest (qI E I base H.size k σ' pI a) (AI E I H.size))
    (hz1 : ∀ I' H1, WP E σ' I' H1 → (∀ q : Nat, q < H.size → ¬ AI E I H.size q → H1[q]? = H[q]?) → H.size ≤ H1.size → Z1 I' H1)
    (kv : ∀ I', pI I' → AS E I' base → (∀ n q, adx E I' n = some q → A q) → VZ M A nL (kc + 20) (ks + 1300) Q (Z1 I') (pc + 3) L (.int k :: rest)) : W M.1 M.2.1 M.2.2.1 M.2.2.2.1 M.2.2.2.2.1 M.2.2.2.2.2.1 M.2.2.2.2.2.2.1 M.2.2.2.2.2.2.2.1 M.2.2.2.2.2.2.2.2.1 M.2.2.2.2.2.2.2.2.2 H locs kc ks Q (F0 M.2.2.2.2.2.1 pc ls st0) := by
  intro T hT Xs
  obtain ⟨v, st₀, t, T', L2, h0, X', hL, e1, e2, ⟨⟨I', ho, hp, hW, hA', hai⟩, hF⟩, stp⟩ := hr T hT Xs
  cases ho
  obtain ⟨k1, k2, k3⟩ := vx_keep h0 e1 hS (fun q _ h => AI_A K hAd hS.1 h) (fun q h => AI_A K hAd hS.1 h) hL hF
  obtain ⟨t2, a1, b1⟩ := kv I' hp hA' (fun n q h => AI_A K hAd hS.1 (hai n q h)) T'.heap (locs ++ L2) ls (hz1 I' T'.heap (by rw [e1]; exact hW) k2 k1) k3 hl T' rfl X'
  exact ⟨t2, stp t2 a1, b1⟩
theorem z_callI {y : MethodName} {cc' : ByteArray} {nL' fr' lo' n index Nn : Nat} {T : u_T} {As rest st0 : List Value} {σ σ' : St} {I : Im} {k : Int32} {pI : Im → Prop} (K : OKq M E A nL cc own rt base fr lo mc ms) (cv : CalV y cc' nL' (some .int) n) (hlk : Cond.methodLink own index y ∈ Gw) (hc : vcl[3]? = some (y.cls, T, Nn))
    (hM : ICtr M.2.1 y (.code y cc' nL' (some .int)) fr' lo' E base (.ref (E.2.2 0) :: As) σ I k σ' pI) (hn : As.length = n) (hst : st0 = As.reverse ++ .ref (E.2.2 0) :: rest) (hrm : (rest.map fun v => v.category).sum ≤ 8) (hfr : fr' + 1 ≤ fr) (hlo : 8 + (nL' + 11) + lo' ≤ lo) (h1 : kc + 20 ≤ mc) (h2 : ks + 1300 ≤ ms) (d : decode cc pc = .ok (.invokevirtual index, 3))
    (hAd : ∀ n a, adx E I n = some a → A a) (hz : ∀ H, Z H → WP E σ I H)
    (hz1 : ∀ I' H H1, Z H → WP E σ' I' H1 → (∀ q : Nat, q < H.size → ¬ AI E I H.size q → H1[q]? = H[q]?) → H.size ≤ H1.size → Z1 I' H1)
    (kv : ∀ I', pI I' → AS E I' base → (∀ n q, adx E I' n = some q → A q) → VZ M A nL (kc + 20) (ks + 1300) Q (Z1 I') (pc + 3) L (.int k :: rest)) : VZ M A nL kc ks Q Z pc L st0 := by
  intro H locs ls hP hS hl
  obtain ⟨c1, c2, c3, c4, c5, c6, c7⟩ := cv
  have hPC := hz H hP
  refine z_runI (a := (Value.ref (E.2.2 0) :: As).toArray) K hAd hS hl ?_ (fun I' H1 => hz1 I' H H1 hP) kv
  refine va_runV (Ts := Cond.code y cc' nL' (some .int) :: Gw) (bytes := cc') (maxL := nL') (ret := some .int) (n := n) (C := y.cls) (own := own) (index := index) (As := As) (b := E.2.2 0) ⟨K.z.ex, K.z.cd, K.z.ml, K.z.ow, fun w hw => (List.mem_cons.mp hw).elim (fun q => by rw [q]; exact K.z.ts _ c1) (K.z.ts w)⟩ (hM H.size) ⟨callB_of n (fun w hw => (List.mem_cons.mp hw).elim (fun q => by rw [q]; exact K.z.ts _ c1) (K.z.ts w)) (good_cg (c0 := Cond.code y cc' nL' (some .int)) c1) rfl rfl rfl (K.z.ts _ c4) (K.z.ts _ hlk) ⟨c5, c6, c7⟩ ⟨Nat.le_trans hfr K.frm, Nat.le_trans hlo K.loc⟩, K.z.ts _ c2, K.z.ts _ c3⟩ ⟨fun a U g mk q => ⟨q.1, q.2.1, q.2.2.1, q.2.2.2.1, AmbK.same q.2.2.2.2 rfl rfl⟩, ?_, fun U hU hW => ⟨rfl, by rw [hU], Nat.le_trans K.bs hS.1, by rw [hU]; exact hPC, AmbK.go K.am hW (fun a h1 h2 => ?_)⟩⟩ rfl hn hl.1 hst (lv_room hrm) d ⟨Nat.le_trans h1 K.ce, Nat.le_trans h2 K.sl⟩
  · exact va_recv (q := (y.cls, T, Nn)) (q0 := 0) (ci := 3) (fs := fvs E σ 0 0 (fldC 0)) (a := E.2.2 0) K.am.1.1 (sgP hPC.obj) hc rfl
  · rw [hU]
    exact hS.2.1 a h1 (fun q => h2 (K.Ab _ q))
/-- a call that throws -/
theorem z_callX {y : MethodName} {cc' : ByteArray} {nL' fr' lo' n index Nn : Nat} {T : u_T} {As rest st0 : List Value} {σ : St} {I : Im} {En : String} (K : OKq M E A nL cc own rt base fr lo mc ms) (cv : CalV y cc' nL' (some .int) n) (hlk : Cond.methodLink own index y ∈ Gw) (hc : vcl[3]? = some (y.cls, T, Nn))
    (hM : XCtr M.2.1 y cc' nL' fr' lo' E base (.ref (E.2.2 0) :: As) σ I En) (hn : As.length = n) (hst : st0 = As.reverse ++ .ref (E.2.2 0) :: rest) (hrm : (rest.map fun v => v.category).sum ≤ 8) (hfr : fr' + 1 ≤ fr) (hlo : 8 + (nL' + 11) + lo' ≤ lo) (h1 : kc + 1 ≤ mc) (h2 : ks + 6 ≤ ms) (d : decode cc pc = .ok (.invokevirtual index, 3))
    (hAd : ∀ n a, adx E I n = some a → A a)
    (kx : ∀ (H1 : Heap) (locs1 : List Loc) (ls : Array Slot) (ce : Cell) (q : Addr), WP E σ I H1 → va_S A M.2.2.2.2.1.heap H1 locs1 → lvL ls nL L → H1[q]? = some ce → ce.vm = .none → M.2.2.2.2.1.vm.findClass En = some ce.cls → vx_W M.1 M.2.1 M.2.2.1 M.2.2.2.1 M.2.2.2.2.1 M.2.2.2.2.2.1 M.2.2.2.2.2.2.1 M.2.2.2.2.2.2.2.1 M.2.2.2.2.2.2.2.2.1 M.2.2.2.2.2.2.2.2.2 H1 locs1 (kc + 1) (ks + 6) Q (F0 M.2.2.2.2.2.1 pc ls rest) q) : VZ M A nL kc ks Q (WP E σ I) pc L st0 := by
  intro H locs ls hP hS hl
  obtain ⟨c1, c2, c3, c4, c5, c6, c7⟩ := cv
  have hr : vx_Run M.1 M.2.1 M.2.2.1 M.2.2.2.1 M.2.2.2.2.1 M.2.2.2.2.2.1 M.2.2.2.2.2.2.1 M.2.2.2.2.2.2.2.1 M.2.2.2.2.2.2.2.2.1 M.2.2.2.2.2.2.2.2.2 H locs kc ks 1 6 (F0 M.2.2.2.2.2.1 pc ls st0) rest (fun _ _ _ => False) (fun En' st t => En' = En ∧ WP E σ I t.heap ∧ va_F (AI E I H.size) st t) (AI E I H.size) := by
    refine vx_runV (Ts := Cond.code y cc' nL' (some .int) :: Gw) (bytes := cc') (maxL := nL') (ret := some .int) (n := n) (C := y.cls) (own := own) (index := index) (As := As) (b := E.2.2 0) ⟨K.z.ex, K.z.cd, K.z.ml, K.z.ow, fun w hw => (List.mem_cons.mp hw).elim (fun q => by rw [q]; exact K.z.ts _ c1) (K.z.ts w)⟩ (hM H.size) ⟨callB_of n (fun w hw => (List.mem_cons.mp hw).elim (fun q => by rw [q]; exact K.z.ts _ c1) (K.z.ts w)) (good_cg (c0 := Cond.code y cc' nL' (some .int)) c1) rfl rfl rfl (K.z.ts _ c4) (K.z.ts _ hlk) ⟨c5, c6, c7⟩ ⟨Nat.le_trans hfr K.frm, Nat.le_trans hlo K.loc⟩, K.z.ts _ c2, K.z.ts _ c3⟩ ⟨fun a U g mk q => ⟨q.1, q.2.1, q.2.2.1, q.2.2.2.1, AmbK.same q.2.2.2.2 rfl rfl⟩, ?_, fun U hU hW => ⟨rfl, by rw [hU], Nat.le_trans K.bs hS.1, by rw [hU]; exact hP, AmbK.go K.am hW (fun a h1 h2 => ?_)⟩⟩ rfl hn hl.1 hst (lv_room hrm) d ⟨Nat.le_trans h1 K.ce, Nat.le_trans h2 K.sl⟩
    · exact va_recv (q := (y.cls, T, Nn)) (q0 := 0) (ci := 3) (fs := fvs E σ 0 0 (fldC 0)) (a := E.2.2 0) K.am.1.1 (sgP hP.obj) hc rfl
    · rw [hU]
      exact hS.2.1 a h1 (fun q => h2 (K.Ab _ q))
  intro T hT Xs
  rcases hr T hT Xs with ⟨v1, st₀, t, T', L2, h0, X', hL, e1, e2, hf, stp⟩ | ⟨q, st₀, t, T', L2, En', ce, h0, X', hL, e1, e2, ⟨rfl, hp, hF⟩, hce, hcv, hcl, stp⟩
  · exact hf.elim
  · obtain ⟨k1, k2, k3⟩ := vx_keep h0 e1 hS (fun q _ h => AI_A K hAd hS.1 h) (fun q h => AI_A K hAd hS.1 h) hL hF
    obtain ⟨t2, a1, b1⟩ := kx T'.heap (locs ++ L2) ls ce q (by rw [e1]; exact hp) k3 hl (by rw [e1]; exact hce) hcv hcl T' rfl X'
    exact ⟨t2, stp.trans a1, b1⟩
/-- out[0] = v -/
theorem z_lastO {σ : St} {I : Im} {v : Int64} (K : OKq M E A nL cc own rt base fr lo mc ms) (hA : AS E I base) (hA28 : A (E.2.2 28)) (d : decode cc pc = .ok (.lastore, 1)) (kk : VZ M A nL kc ks Q (WP E (sL σ 28 0 v) I) (pc + 1) L st) : VZ M A nL kc ks Q (WP E σ I) pc L (.long v :: .int 0 :: .ref (E.2.2 28) :: st) := by
  intro H locs ls hP hS hl
  have h28 : H[E.2.2 28]? = some (vp_cell (E.2.1 0) (1, .inr (.inl (σ.2 28)))) := wsP.mp hP.1 28 (by decide)
  refine W.last K.z.ex K.z.cd h28 ((K.am.1.1.2 0 _ rfl).1 1 (fun j => .long (σ.2 28 j))) (fun q => by cases q) (by show ¬ ((0 : Int32) < 0 ∨ (arrV _ _ _).slots.size ≤ _); rw [arrV_size]; exact ix_in ix01) rfl rfl d fun H1 e z oq => ?_
  have off : ∀ n a, n ≠ 28 → adx E I n = some a → H1[a]? = H[a]? := fun n a hn ha => oq a (fun e => hn (hA.1 n 28 a ha (by rw [e]; exact adx_lo (by decide))))
  refine kk H1 _ ls ⟨wsP.mpr fun i hi => ?_, hP.2.1.kept (off 40 _ (by decide) rfl), fun k ad τ hk2 hI => wsP.mpr fun i hi => (wsP.mp (hP.2.2 k ad τ hk2 hI) i hi).kept (off _ _ (by omega) (adx_im hk2 hi hI))⟩ (hS.put z oq hA28) hl
  by_cases hi28 : i = 28
  · subst hi28
    show H1[E.2.2 28]? = some (vp_cell (E.2.1 0) (1, .inr (.inl ((sL σ 28 0 v).2 28))))
    rw [e, sL_self, vp_cell_l, vp_cell_l, arrV_store]
    congr 2
    funext q
    have e0 : (0 : Int32).toNatClampNeg = 0 := by decide
    rw [e0]
    by_cases hq : q = 0
    · subst hq
      simp [updV, vp_updL]
    · simp [updV, vp_updL, hq]
  · rw [cell_ne (σ := σ) (σ' := sL σ 28 0 v) rfl (sL_ne hi28)]
    exact (wsP.mp hP.1 i hi).kept (off i _ hi28 (adx_lo hi))
theorem z_catch {pre suf : List ExceptionTableEntry} {x : ExceptionTableEntry} {En : String} {H1 : Heap} {locs1 : List Loc} {ls : Array Slot} {ce : Cell} {q : Addr} {rest : List Value} (K : OKq M E A nL cc own rt base fr lo mc ms) (hN : NcG M.2.2.2.2.1) (hT : M.2.2.2.2.2.2.2.2.2.exceptionTable.toList = pre ++ x :: suf)
    (hpass : ∀ z ∈ pre, z.catchType ≠ 0 ∧ ∃ nm : String, Cond.classLink own z.catchType nm ∈ Gw ∧ (En, nm) ∈ gNc) (hx : covers x pc = true) (h0 : x.catchType ≠ 0) (hlink : Cond.classLink own x.catchType En ∈ Gw) (hcast : (En, En) ∈ gCst)
    (hP : Z H1) (hS : va_S A M.2.2.2.2.1.heap H1 locs1) (hl : lvL ls nL L) (hce : H1[q]? = some ce) (hcv : ce.vm = .none) (hcl : M.2.2.2.2.1.vm.findClass En = some ce.cls)
    (kk : VZ M A nL kc ks Q Z x.handlerPc L [.ref q]) : vx_W M.1 M.2.1 M.2.2.1 M.2.2.2.1 M.2.2.2.2.1 M.2.2.2.2.2.1 M.2.2.2.2.2.2.1 M.2.2.2.2.2.2.2.1 M.2.2.2.2.2.2.2.2.1 M.2.2.2.2.2.2.2.2.2 H1 locs1 kc ks Q (F0 M.2.2.2.2.2.1 pc ls rest) q :=
  vx_catch (E := En) (name := En) K.z.ow pre x suf hT (fun z hz => Or.inr ⟨(hpass z hz).1, by obtain ⟨-, nm, h1, h2⟩ := hpass z hz; exact ⟨nm, K.z.ts _ h1, hN _ h2⟩⟩) hx h0 (K.z.ts _ hlink) (va_Nw.use rfl (K.am.1.2.2.2.2.2.1 _ hcast)) hce hcv hcl (kk H1 locs1 ls hP hS hl)
end WK
/-- a little method's contract, over the images too -/
def LCtr (l : Launch) (y : MethodName) (cc : ByteArray) (nL : Nat) (hh : List (Nat × Nat × Nat × Nat)) (fr lo : Nat) (E : Ev) (base : Nat) (av : List Value) (σ : St) (I : Im) (k : Int32) (σ' : St) (pI : Im → Prop) : Prop :=
  ∀ sz : Nat, Met l y (.codeWith y cc nL (some .int) hh :: Gw) { frames := fr, cells := 20, slots := 1300, locals := lo } (va_Pc av (fun U => U.heap.size = sz ∧ base ≤ sz ∧ WP E σ I U.heap ∧ AmbK E base U ∧ NcG U)) (qI E I base sz k σ' pI) 20 1300 (AI E I sz)
theorem ofL {l : Launch} {y : MethodName} {cc : ByteArray} {nL fr lo : Nat} {hh : List (Nat × Nat × Nat × Nat)} {E : Ev} {base : Nat} {av : List Value} {σ : St} {I : Im} {k : Int32} {σ' : St} {pI : Im → Prop} {own : String} {L : List (Option Value)} (n : Nat) (hp : plainName y.cls = true) (ho : y.cls = own) (hA : AS E I base) (hnt : l.stackTraces = false) (hlen : (lg_sl av).length ≤ nL) (hL : ent av ++ List.replicate n none = L)
    (body : ∀ M : MT, M.2.2.2.2.2.2.2.2.2.exceptionTable.toList = tableOf hh → NcG M.2.2.2.2.1 → OKq M E (AI E I M.2.2.2.2.1.heap.size) nL cc own (some .int) base fr lo 20 1300 → VZ M (AI E I M.2.2.2.2.1.heap.size) nL 0 0 (MQ M.2.2.2.2.2.2.2.1 (qI E I base M.2.2.2.2.1.heap.size k σ' pI) M.2.2.2.2.2.2.1 M.2.2.2.2.1 20 1300 (AI E I M.2.2.2.2.1.heap.size)) (WP E σ I) 0 L []) : LCtr l y cc nL hh fr lo E base av σ I k σ' pI := by
  intro sz
  refine va_MetW (cc := cc) (maxL := nL) (ret := some .int) (hh := hh) hp rfl ?_
  intro p e s m args below meth c s₁ B hml hv
  obtain ⟨rfl, hsz, hb, hP, hK, hNc⟩ := hv
  subst hsz
  have hts : ∀ w ∈ Gw, w.before av.toArray s = true := fun w hw => atoms_spec (ws := Cond.codeWith y cc nL (some .int) hh :: Gw) B.pre w (List.mem_cons_of_mem _ hw)
  have hcw : (Cond.codeWith y cc nL (some .int) hh).before av.toArray s = true := atoms_spec (ws := Cond.codeWith y cc nL (some .int) hh :: Gw) B.pre _ List.mem_cons_self
  have hk := body (p, l, e, { frames := fr, cells := 20, slots := 1300, locals := lo }, s, m, av.toArray, below, meth, c) (vx_table (x := y) B hcw) hNc ⟨⟨B.exec, B.bytes, hml, B.notSynchronized, by rw [← ho]; exact findClass_of_methodNamed B.named, hts⟩, B.returns, hK, fun q h => Or.inr h, hb, fun q h => AI_base hA hb h, Nat.le_refl _, Nat.le_refl _, Nat.le_refl _, Nat.le_refl _, hnt⟩
  rw [lg_entry_eq]
  refine hk s.heap [] _ hP va_S.rf ?_
  have hl := lv_entry av (n := nL) hlen
  unfold lvL
  rw [← hL, asc_ent]
  exact hl
theorem tl_keep_ok (l : Launch) (hnt : l.stackTraces = false) {E : Ev} {base : Nat} {I : Im} (hA : AS E I base) (σ : St) (k : Int32) (j : Nat) (hj : ix k 2 = some j) : LCtr l yL_keep cL_keep 4 [(0, 9, 12, 20)] 8 142 E base [.ref (E.2.2 0), .int k, .ref (E.2.2 28)] σ I 0 (sL σ 28 0 (σ.1 1 0).toInt64) (fun I' => ∃ ad, I' = upI I j (ad, tb σ)) := by
  refine ofL 1 (by decide +kernel) rfl hA hnt (Nat.le_of_ble_eq_true rfl) rfl (fun M hT hN K => ?_)
  refine z_aload2 (pc := 0) K.z dL_keep_0 ?_
  refine z_ic0 (pc := 1) K.z dL_keep_1 ?_
  refine z_aload0 (pc := 2) K.z dL_keep_2 ?_
  refine z_iload1 (pc := 3) K.z dL_keep_3 ?_
  refine z_callI (pc := 4) (n := 1) (As := [.int k]) (rest := [.int 0, .ref (E.2.2 28)]) (Z1 := fun I' => WP E σ I') K ca_yX3_keep ml_RL_197 rfl (keep_ok _ K.nt hA σ k j hj) rfl rfl (Nat.le_of_ble_eq_true rfl) (by decide) (by decide) (by decide) (by decide) dL_keep_4 (fun n a h => mem_AI h) (fun H h => h) (fun I' H H1 _ h _ _ => h) (fun I' hp hA' hAd => ?_)
  refine z_i2l (pc := 7) K.z dL_keep_7 ?_
  refine z_lastO (pc := 8) K hA' (hAd 28 _ (adx_lo (by decide))) dL_keep_8 ?_
  refine z_goto (pc := 9) (tgt := 15) K.z dL_keep_9 (by decide) ?_
  refine z_ic0 (pc := 15) K.z dL_keep_15 ?_
  exact z_iret (pc := 16) K dL_keep_16 (by decide) (by decide) (fun H t ht hW hF => ⟨⟨I', rfl, hp, by rw [ht]; exact hW, hA', hAd⟩, hF⟩)
theorem tl_back_ok (l : Launch) (hnt : l.stackTraces = false) {E : Ev} {base : Nat} {I : Im} (hA : AS E I base) (σ : St) (k : Int32) (j : Nat) (hj : ix k 2 = some j) (ad : Nat → Nat) (τ : St) (hI : I j = some (ad, τ)) : LCtr l yL_back cL_back 4 [(0, 9, 12, 20), (0, 9, 15, 15)] 8 142 E base [.ref (E.2.2 0), .int k, .ref (E.2.2 28)] σ I 0 (sL (ub σ τ) 28 0 (τ.1 0 0).toInt64) (fun I' => I' = I) := by
  refine ofL 1 (by decide +kernel) rfl hA hnt (Nat.le_of_ble_eq_true rfl) rfl (fun M hT hN K => ?_)
  refine z_aload2 (pc := 0) K.z dL_back_0 ?_
  refine z_ic0 (pc := 1) K.z dL_back_1 ?_
  refine z_aload0 (pc := 2) K.z dL_back_2 ?_
  refine z_iload1 (pc := 3) K.z dL_back_3 ?_
  refine z_callI (pc := 4) (n := 1) (As := [.int k]) (rest := [.int 0, .ref (E.2.2 28)]) (Z1 := fun I' => WP E (ub σ τ) I') K ca_yX3_back ml_RL_200 rfl (back_ok _ K.nt hA σ k j hj ad τ hI) rfl rfl (Nat.le_of_ble_eq_true rfl) (by decide) (by decide) (by decide) (by decide) dL_back_4 (fun n a h => mem_AI h) (fun H h => h) (fun I' H H1 _ h _ _ => h) (fun I' hp hA' hAd => ?_)
  refine z_i2l (pc := 7) K.z dL_back_7 ?_
  refine z_lastO (pc := 8) K hA' (hAd 28 _ (adx_lo (by decide))) dL_back_8 ?_
  refine z_goto (pc := 9) (tgt := 18) K.z dL_back_9 (by decide) ?_
  refine z_ic0 (pc := 18) K.z dL_back_18 ?_
  exact z_iret (pc := 19) K dL_back_19 (by decide) (by decide) (fun H t ht hW hF => ⟨⟨I', rfl, hp, by rw [ht]; exact hW, hA', hAd⟩, hF⟩)
theorem tl_back_e2 (l : Launch) (hnt : l.stackTraces = false) {E : Ev} {base : Nat} {I : Im} (hA : AS E I base) (σ : St) (k : Int32) (j : Nat) (hj : ix k 2 = some j) (hI : I j = none) : LCtr l yL_back cL_back 4 [(0, 9, 12, 20), (0, 9, 15, 15)] 8 142 E base [.ref (E.2.2 0), .int k, .ref (E.2.2 28)] σ I 2 σ (fun I' => I' = I) := by
  refine ofL 1 (by decide +kernel) rfl hA hnt (Nat.le_of_ble_eq_true rfl) rfl (fun M hT hN K => ?_)
  refine z_aload2 (pc := 0) K.z dL_back_0 ?_
  refine z_ic0 (pc := 1) K.z dL_back_1 ?_
  refine z_aload0 (pc := 2) K.z dL_back_2 ?_
  refine z_iload1 (pc := 3) K.z dL_back_3 ?_
  refine z_callX (pc := 4) (n := 1) (As := [.int k]) (rest := [.int 0, .ref (E.2.2 28)]) K ca_yX3_back ml_RL_200 rfl (back_ise _ K.nt hA σ k j hj hI) rfl rfl (Nat.le_of_ble_eq_true rfl) (by decide) (by decide) (by decide) (by decide) dL_back_4 (fun n a h => mem_AI h) (fun H1 locs1 ls ce q hP hS hl hce hcv hcl => ?_)
  refine z_catch (pre := [⟨0, 9, 12, 20⟩]) (x := ⟨0, 9, 15, 15⟩) (suf := []) K hN (hT.trans rfl) (fun z hz => by rw [List.mem_singleton.mp hz]; exact ⟨by decide, "java/lang/IndexOutOfBoundsException", kl_20, by decide +kernel⟩) (by decide) (by decide) kl_15 (by decide +kernel) hP hS hl hce hcv hcl ?_
  refine z_astore3 (pc := 15) K.z dL_back_15 rfl (Nat.le_of_ble_eq_true rfl) ?_
  refine z_ic2 (pc := 16) K.z dL_back_16 ?_
  exact z_iret (pc := 17) K dL_back_17 (by decide) (by decide) (fun H t ht hW hF => ⟨⟨I, rfl, rfl, by rw [ht]; exact hW, hA, fun n q h => mem_AI h⟩, hF⟩)
theorem tw_keep_e1 (l : Launch) (hnt : l.stackTraces = false) {E : Ev} {base : Nat} (hE : Adr YO E base) (σ : St) (k : Int32) (h : ix k 2 = none) : WCtr l yL_keep cL_keep 4 [(0, 9, 12, 20)] 8 142 E base [.ref (E.2.2 0), .int k, .ref (E.2.2 28)] σ 1 (mgO σ σ) := by
  refine ofWW 1 (by decide +kernel) rfl hE hnt (Nat.le_of_ble_eq_true rfl) rfl (fun M hT hN K => ?_)
  refine v_aload2 (pc := 0) K dL_keep_0 ?_
  refine v_ic0 (pc := 1) K dL_keep_1 ?_
  refine v_aload0 (pc := 2) K dL_keep_2 ?_
  refine v_iload1 (pc := 3) K dL_keep_3 ?_
  refine w_c1E (pc := 4) K ca_yX3_keep ml_RL_197 rfl (t_keep_e1 _ K.nt (AdrOC K.ad) σ k h) (Nat.le_of_ble_eq_true rfl) (by decide) (by decide) dL_keep_4 (fun H1 locs1 ls ce q hP hS hl hce hcv hcl => ?_)
  refine w_catch (pre := []) (x := ⟨0, 9, 12, 20⟩) (suf := []) K hN (hT.trans rfl) (fun z hz => nomatch hz) (by decide) (by decide) kl_20 (by decide +kernel) hP hS hl hce hcv hcl ?_
  have K := w_up K
  refine v_astore3 (pc := 12) K dL_keep_12 rfl (Nat.le_of_ble_eq_true rfl) ?_
  refine v_ic1 (pc := 13) K dL_keep_13 ?_
  exact v_wret (pc := 14) K dL_keep_14 rfl (by decide) (by decide)
theorem tw_back_e1 (l : Launch) (hnt : l.stackTraces = false) {E : Ev} {base : Nat} (hE : Adr YO E base) (σ : St) (k : Int32) (h : ix k 2 = none) : WCtr l yL_back cL_back 4 [(0, 9, 12, 20), (0, 9, 15, 15)] 8 142 E base [.ref (E.2.2 0), .int k, .ref (E.2.2 28)] σ 1 (mgO σ σ) := by
  refine ofWW 1 (by decide +kernel) rfl hE hnt (Nat.le_of_ble_eq_true rfl) rfl (fun M hT hN K => ?_)
  refine v_aload2 (pc := 0) K dL_back_0 ?_
  refine v_ic0 (pc := 1) K dL_back_1 ?_
  refine v_aload0 (pc := 2) K dL_back_2 ?_
  refine v_iload1 (pc := 3) K dL_back_3 ?_
  refine w_c1E (pc := 4) K ca_yX3_back ml_RL_200 rfl (t_back_e1 _ K.nt (AdrOC K.ad) σ k h) (Nat.le_of_ble_eq_true rfl) (by decide) (by decide) dL_back_4 (fun H1 locs1 ls ce q hP hS hl hce hcv hcl => ?_)
  refine w_catch (pre := []) (x := ⟨0, 9, 12, 20⟩) (suf := [⟨0, 9, 15, 15⟩]) K hN (hT.trans rfl) (fun z hz => nomatch hz) (by decide) (by decide) kl_20 (by decide +kernel) hP hS hl hce hcv hcl ?_
  have K := w_up K
  refine v_astore3 (pc := 12) K dL_back_12 rfl (Nat.le_of_ble_eq_true rfl) ?_
  refine v_ic1 (pc := 13) K dL_back_13 ?_
  exact v_wret (pc := 14) K dL_back_14 rfl (by decide) (by decide)
