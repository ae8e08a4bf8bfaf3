/-! calls and entry, over V -/
def CalV (y : MethodName) (cc : ByteArray) (nL : Nat) (rt : Option FieldType) (n : Nat) : Prop := Cond.code y cc nL rt ∈ Gw ∧ Cond.instanceMethod y ∈ Gw ∧ Cond.selects y.cls y y ∈ Gw ∧ Cond.initialized y.cls ∈ Gw ∧ y.cls ≠ "java/lang/invoke/MethodHandle" ∧ y.cls ≠ "java/lang/invoke/VarHandle" ∧ (parseMethodDescriptor y.desc).map (fun d => d.parameters.length) = some n
def CalS (y : MethodName) (cc : ByteArray) (nL : Nat) (rt : Option FieldType) (n : Nat) : Prop := Cond.code y cc nL rt ∈ Gw ∧ Cond.static y ∈ Gw ∧ Cond.initialized y.cls ∈ Gw ∧ y.cls ≠ "java/lang/invoke/MethodHandle" ∧ y.cls ≠ "java/lang/invoke/VarHandle" ∧ (parseMethodDescriptor y.desc).map (fun d => d.parameters.length) = some n
section VCALL
variable {X : XT} {cc : ByteArray} {own : String} {rt : Option FieldType} {fr lo : Nat} {σ : St} {pc : Nat} {L : List (Option Value)} {st : List Value}
/-- behind a call: it came back, or it threw -/
theorem v_run {H : Heap} {locs : List Loc} {ls : Array Slot} {st0 rest : List Value} {σ1 : St} {res1 : Rs} {a : Array Value} (hS : va_S (Ax X.Y X.E X.s.heap.size) X.s.heap H locs) (hl : lvL ls X.nL L)
    (hr : vx_Run X.p X.l X.e X.R X.s X.m X.args X.below X.meth X.c H locs X.kc X.ks (xk res1) (xs6 res1) (F0 X.m pc ls st0) rest (qC X.Y X.E σ1 res1 H.size a) (qX X.Y X.E σ1 res1 H.size) (Ax X.Y X.E H.size))
    (kv : ∀ v, res1 = .ok v → V X σ1 (pc + 3) L (v.toList ++ rest))
    (kx : ∀ (En : String) (H1 : Heap) (locs1 : List Loc) (ce : Cell) (q : Addr), res1 = .error En → va_P X.E.1 vcl (wsOf X.Y X.E σ1) H1 → va_S (Ax X.Y X.E X.s.heap.size) X.s.heap H1 locs1 → H1[q]? = some ce → ce.vm = .none → X.s.vm.findClass En = some ce.cls → vx_W X.p X.l X.e X.R X.s X.m X.args X.below X.meth X.c H1 locs1 (X.kc + 1) (X.ks + 6) X.Q (F0 X.m pc ls rest) q) : W X.p X.l X.e X.R X.s X.m X.args X.below X.meth X.c H locs X.kc X.ks X.Q (F0 X.m pc ls st0) := by
  intro T hT Xs
  have keep : ∀ (st₀ t T' : State) (L2 : List Loc), st₀.heap = H → T'.heap = t.heap → (∀ q ∈ L2, Ax X.Y X.E H.size q.base) → va_F (Ax X.Y X.E H.size) st₀ t → va_S (Ax X.Y X.E X.s.heap.size) X.s.heap T'.heap (locs ++ L2) := by
    intro st₀ t T' L2 h0 e1 hL hF
    exact (vx_keep h0 e1 hS (fun q _ h => Ax_up hS.1 h) (fun q h => Ax_up hS.1 h) hL hF).2.2
  rcases hr T hT Xs with ⟨v, st₀, t, T', L2, h0, X', hL, e1, e2, ⟨⟨v9, hv, ho, hp⟩, hF⟩, stp⟩ | ⟨q, st₀, t, T', L2, En, ce, h0, X', hL, e1, e2, ⟨hx, hp, hF⟩, hce, hcv, hcl, stp⟩
  · cases ho
    have hx0 : xk res1 = 0 := by rw [hv]; rfl
    have hs0 : xs6 res1 = 0 := by rw [hv]; rfl
    rw [hx0, hs0] at X'
    obtain ⟨t2, a1, b1⟩ := kv v hv T'.heap (locs ++ L2) ls (by rw [e1]; exact hp) (keep st₀ t T' L2 h0 e1 hL hF) hl T' rfl X'
    exact ⟨t2, stp t2 a1, b1⟩
  · have hx0 : xk res1 = 1 := by rw [hx]; rfl
    have hs0 : xs6 res1 = 6 := by rw [hx]; rfl
    rw [hx0, hs0] at X'
    obtain ⟨t2, a1, b1⟩ := kx En T'.heap (locs ++ L2) ce q hx (by rw [e1]; exact hp) (keep st₀ t T' L2 h0 e1 hL hF) (by rw [e1]; exact hce) hcv hcl T' rfl X'
    exact ⟨t2, stp.trans a1, b1⟩
/-- not caught here -/
theorem v_lv {M : Program × Launch × Env × Room × State × MethodId × Array Value × List Frame × Method × Code} {Y : Ly} {E : Ev} {base nL : Nat} {res : Rs} {se : St} {cc : ByteArray} {own : String} {rt : Option FieldType} {fr lo pc : Nat} {ls : Array Slot} {rest : List Value} {σ1 : St} {En : String} {H1 : Heap} {locs1 : List Loc} {ce : Cell} {q : Addr} (K : OK (mkX M Y E base nL res se) cc own rt fr lo) (hN : NoH M) (hr : res = .error En) (hs : se = σ1) (hP : va_P E.1 vcl (wsOf Y E σ1) H1) (hS : va_S (Ax Y E M.2.2.2.2.1.heap.size) M.2.2.2.2.1.heap H1 locs1) (hce : H1[q]? = some ce) (hcv : ce.vm = .none) (hcl : M.2.2.2.2.1.vm.findClass En = some ce.cls) : vx_W M.1 M.2.1 M.2.2.1 M.2.2.2.1 M.2.2.2.2.1 M.2.2.2.2.2.1 M.2.2.2.2.2.2.1 M.2.2.2.2.2.2.2.1 M.2.2.2.2.2.2.2.2.1 M.2.2.2.2.2.2.2.2.2 H1 locs1 (0 + 1) (0 + 6) (mkQ M Y E res se) (F0 M.2.2.2.2.2.1 pc ls rest) q := by
  subst hr
  subst hs
  exact vx_out (fun x hx => (hN x hx).elim) K.lk hce hcv hcl (fun t3 ht3 _ => ⟨rfl, by rw [ht3]; exact hP, hS.F ht3⟩) hS.2.2 (Nat.le_refl 1) (Nat.le_refl 6)
/-- what a callee asks of the world, at a call -/
theorem v_pc {H : Heap} {locs : List Loc} {av : List Value} (K : OK X cc own rt fr lo) (hP : va_P X.E.1 vcl (wsOf X.Y X.E σ) H) (hS : va_S (Ax X.Y X.E X.s.heap.size) X.s.heap H locs) : FrameBlind (va_Pc av (fun U => U.heap.size = H.size ∧ X.base ≤ H.size ∧ va_P X.E.1 vcl (wsOf X.Y X.E σ) U.heap ∧ AmbG X.E X.base U)) ∧ ∀ U : State, U.heap = H → X.s.WarmedH U.vm → va_Pc av (fun U => U.heap.size = H.size ∧ X.base ≤ H.size ∧ va_P X.E.1 vcl (wsOf X.Y X.E σ) U.heap ∧ AmbG X.E X.base U) av.toArray U := by
  refine ⟨fun a U g mk q => ⟨q.1, q.2.1, q.2.2.1, q.2.2.2.1, Amb.same q.2.2.2.2 rfl rfl⟩, fun U hU hW => ⟨rfl, by rw [hU], Nat.le_trans K.bs hS.1, by rw [hU]; exact hP, Amb.go K.am hW (fun a h1 h2 => ?_)⟩⟩
  rw [hU]
  exact hS.2.1 a h1 (fun q => h2 (Ax_base K.ad K.bs q))
theorem v_room {res1 : Rs} (K : OK X cc own rt fr lo) (h1 : xk res1 ≤ X.rc) (h2 : xs6 res1 ≤ X.rs) : X.kc + xk res1 ≤ X.R.cells ∧ X.ks + xs6 res1 ≤ X.R.slots := ⟨Nat.le_trans (Nat.add_le_add_left h1 _) K.ce, Nat.le_trans (Nat.add_le_add_left h2 _) K.sl⟩
theorem v_callV {y : MethodName} {cc' : ByteArray} {nL' fr' lo' n index i ci Nn : Nat} {rt' : Option FieldType} {T : u_T} {As rest st0 : List Value} {res1 : Rs} {σ1 : St} (K : OK X cc own rt fr lo) (cv : CalV y cc' nL' rt' n) (hlk : Cond.methodLink own index y ∈ Gw) (hi : i < X.Y.1) (hy : X.Y.2.1 i = (3, ci)) (hc : vcl[ci]? = some (y.cls, T, Nn))
    (hM : Ctr X.l y cc' nL' rt' fr' lo' X.Y X.E X.base (.ref (X.E.2.2 i) :: As) σ res1 σ1) (hn : As.length = n) (hst : st0 = As.reverse ++ .ref (X.E.2.2 i) :: rest) (hrm : (rest.map fun v => v.category).sum ≤ 8) (hfr : fr' + 1 ≤ fr) (hlo : 8 + (nL' + 11) + lo' ≤ lo) (d : decode cc pc = .ok (.invokevirtual index, 3))
    (hc1 : xk res1 ≤ X.rc) (hs1 : xs6 res1 ≤ X.rs) (kv : ∀ v, res1 = .ok v → V X σ1 (pc + 3) L (v.toList ++ rest))
    (kx : ∀ (En : String) (H1 : Heap) (locs1 : List Loc) (ls : Array Slot) (ce : Cell) (q : Addr), res1 = .error En → va_P X.E.1 vcl (wsOf X.Y X.E σ1) H1 → va_S (Ax X.Y X.E X.s.heap.size) X.s.heap H1 locs1 → lvL ls X.nL L → H1[q]? = some ce → ce.vm = .none → X.s.vm.findClass En = some ce.cls → vx_W X.p X.l X.e X.R X.s X.m X.args X.below X.meth X.c H1 locs1 (X.kc + 1) (X.ks + 6) X.Q (F0 X.m pc ls rest) q) : V X σ pc L st0 := by
  intro H locs ls hP hS hl
  obtain ⟨c1, c2, c3, c4, c5, c6, c7⟩ := cv
  have hpc := v_pc (av := .ref (X.E.2.2 i) :: As) K hP hS
  refine v_run (a := (Value.ref (X.E.2.2 i) :: As).toArray) hS hl ?_ kv (fun En H1 locs1 ce q h1 h2 h3 h4 h5 h6 => kx En H1 locs1 ls ce q h1 h2 h3 hl h4 h5 h6)
  refine vx_runV (Ts := Cond.code y cc' nL' rt' :: Gw) (bytes := cc') (maxL := nL') (ret := rt') (n := n) (C := y.cls) (own := own) (index := index) (As := As) (b := X.E.2.2 i) ⟨K.ex, K.cd, K.ml, K.ow, fun w hw => (List.mem_cons.mp hw).elim (fun q => by rw [q]; exact K.ts _ c1) (K.ts w)⟩ (hM H.size) ⟨callB_of n (fun w hw => (List.mem_cons.mp hw).elim (fun q => by rw [q]; exact K.ts _ c1) (K.ts w)) (good_cg (c0 := Cond.code y cc' nL' rt') c1) rfl rfl rfl (K.ts _ c4) (K.ts _ hlk) ⟨c5, c6, c7⟩ ⟨Nat.le_trans hfr K.frm, Nat.le_trans hlo K.loc⟩, K.ts _ c2, K.ts _ c3⟩ ⟨hpc.1, ?_, hpc.2⟩ rfl hn hl.1 hst (lv_room hrm) d (v_room K hc1 hs1)
  have hrec := va_recv (q := (y.cls, T, Nn)) (q0 := i) (ci := ci) (fs := fvs X.E σ i 0 (X.Y.2.2.1 i)) (a := X.E.2.2 i) K.am.1 hP hc (by rw [ws_get hi, cell_O hy])
  exact hrec
theorem v_callS {y : MethodName} {cc' : ByteArray} {nL' fr' lo' n index : Nat} {rt' : Option FieldType} {As rest st0 : List Value} {res1 : Rs} {σ1 : St} (K : OK X cc own rt fr lo) (cv : CalS y cc' nL' rt' n) (hlk : Cond.methodLink own index y ∈ Gw)
    (hM : Ctr X.l y cc' nL' rt' fr' lo' X.Y X.E X.base As σ res1 σ1) (hn : As.length = n) (hst : st0 = As.reverse ++ rest) (hrm : (rest.map fun v => v.category).sum ≤ 8) (hfr : fr' + 1 ≤ fr) (hlo : 8 + (nL' + 11) + lo' ≤ lo) (d : decode cc pc = .ok (.invokestatic index, 3))
    (hc1 : xk res1 ≤ X.rc) (hs1 : xs6 res1 ≤ X.rs) (kv : ∀ v, res1 = .ok v → V X σ1 (pc + 3) L (v.toList ++ rest))
    (kx : ∀ (En : String) (H1 : Heap) (locs1 : List Loc) (ls : Array Slot) (ce : Cell) (q : Addr), res1 = .error En → va_P X.E.1 vcl (wsOf X.Y X.E σ1) H1 → va_S (Ax X.Y X.E X.s.heap.size) X.s.heap H1 locs1 → lvL ls X.nL L → H1[q]? = some ce → ce.vm = .none → X.s.vm.findClass En = some ce.cls → vx_W X.p X.l X.e X.R X.s X.m X.args X.below X.meth X.c H1 locs1 (X.kc + 1) (X.ks + 6) X.Q (F0 X.m pc ls rest) q) : V X σ pc L st0 := by
  intro H locs ls hP hS hl
  obtain ⟨c1, c2, c4, c5, c6, c7⟩ := cv
  have hpc := v_pc (av := As) K hP hS
  refine v_run (a := As.toArray) hS hl ?_ kv (fun En H1 locs1 ce q h1 h2 h3 h4 h5 h6 => kx En H1 locs1 ls ce q h1 h2 h3 hl h4 h5 h6)
  exact vx_runS (Ts := Cond.code y cc' nL' rt' :: Gw) (bytes := cc') (maxL := nL') (ret := rt') (n := n) (own := own) (index := index) (As := As) ⟨K.ex, K.cd, K.ml, K.ow, fun w hw => (List.mem_cons.mp hw).elim (fun q => by rw [q]; exact K.ts _ c1) (K.ts w)⟩ (hM H.size) ⟨callB_of n (fun w hw => (List.mem_cons.mp hw).elim (fun q => by rw [q]; exact K.ts _ c1) (K.ts w)) (good_cg (c0 := Cond.code y cc' nL' rt') c1) rfl rfl rfl (K.ts _ c4) (K.ts _ hlk) ⟨c5, c6, c7⟩ ⟨Nat.le_trans hfr K.frm, Nat.le_trans hlo K.loc⟩, K.ts _ c2⟩ hpc rfl hn hl.1 hst (lv_room hrm) d (v_room K hc1 hs1)
theorem v_callN {y : MethodName} {host : String} {cc' : ByteArray} {nL' fr' lo' n index : Nat} {rt' : Option FieldType} {As rest st0 : List Value} {res1 : Rs} {σ1 : St} (K : OK X cc own rt fr lo) (cv : CalS y cc' nL' rt' n) (hlk : (own, index, y, host) ∈ gNst)
    (hM : Ctr X.l y cc' nL' rt' fr' lo' X.Y X.E X.base As σ res1 σ1) (hn : As.length = n) (hst : st0 = As.reverse ++ rest) (hrm : (rest.map fun v => v.category).sum ≤ 8) (hfr : fr' + 1 ≤ fr) (hlo : 8 + (nL' + 11) + lo' ≤ lo) (d : decode cc pc = .ok (.invokestatic index, 3))
    (hc1 : xk res1 ≤ X.rc) (hs1 : xs6 res1 ≤ X.rs) (kv : ∀ v, res1 = .ok v → V X σ1 (pc + 3) L (v.toList ++ rest))
    (kx : ∀ (En : String) (H1 : Heap) (locs1 : List Loc) (ls : Array Slot) (ce : Cell) (q : Addr), res1 = .error En → va_P X.E.1 vcl (wsOf X.Y X.E σ1) H1 → va_S (Ax X.Y X.E X.s.heap.size) X.s.heap H1 locs1 → lvL ls X.nL L → H1[q]? = some ce → ce.vm = .none → X.s.vm.findClass En = some ce.cls → vx_W X.p X.l X.e X.R X.s X.m X.args X.below X.meth X.c H1 locs1 (X.kc + 1) (X.ks + 6) X.Q (F0 X.m pc ls rest) q) : V X σ pc L st0 := by
  intro H locs ls hP hS hl
  obtain ⟨c1, c2, c4, c5, c6, c7⟩ := cv
  have hpc := v_pc (av := As) K hP hS
  refine v_run (a := As.toArray) hS hl ?_ kv (fun En H1 locs1 ce q h1 h2 h3 h4 h5 h6 => kx En H1 locs1 ls ce q h1 h2 h3 hl h4 h5 h6)
  exact vx_runSN (Ts := Cond.code y cc' nL' rt' :: Gw) (bytes := cc') (maxL := nL') (ret := rt') (n := n) (own := own) (host := host) (index := index) (As := As) ⟨K.ex, K.cd, K.ml, K.ow, fun w hw => (List.mem_cons.mp hw).elim (fun q => by rw [q]; exact K.ts _ c1) (K.ts w)⟩ (hM H.size) ⟨va_cnB n (fun w hw => (List.mem_cons.mp hw).elim (fun q => by rw [q]; exact K.ts _ c1) (K.ts w)) (good_cg (c0 := Cond.code y cc' nL' rt') c1) rfl rfl rfl (K.am.2.2.2.2.1 _ hlk) (K.ts _ c4) ⟨c5, c6, c7⟩ ⟨Nat.le_trans hfr K.frm, Nat.le_trans hlo K.loc⟩, K.ts _ c2, trivial⟩ hpc rfl hn hl.1 hst (lv_room hrm) d (v_room K hc1 hs1)
/-! switches: from 0 on -/
theorem v_tsIn {dflt hi off : Int} {offs : Array Int} {len tgt k : Nat} {x : Int32} (K : OK X cc own rt fr lo) (d : decode cc pc = .ok (.tableswitch dflt 0 hi offs, len)) (hx : x.toInt = (k : Int)) (hk : (k : Int) ≤ hi) (ho : offs[k]? = some off) (ht : (pc : Int) + off = (tgt : Int)) (kk : V X σ tgt L st) : V X σ pc L (.int x :: st) :=
  fun H locs ls hP hS hl => lv_tableIn K.ex K.cd d (by rw [hx]; omega) (by rw [hx]; omega) (by rw [hx, Int.sub_zero, Int.toNat_natCast]; exact ho) ht (kk H locs ls hP hS hl)
theorem v_tsOut {dflt hi : Int} {offs : Array Int} {len tgt : Nat} {x : Int32} (K : OK X cc own rt fr lo) (d : decode cc pc = .ok (.tableswitch dflt 0 hi offs, len)) (hx : x.toInt < 0 ∨ hi < x.toInt) (ht : (pc : Int) + dflt = (tgt : Int)) (kk : V X σ tgt L st) : V X σ pc L (.int x :: st) :=
  fun H locs ls hP hS hl => lv_tableOut K.ex K.cd d hx ht (kk H locs ls hP hS hl)
end VCALL
theorem ts_out {x : Int32} (n : Nat) (hn : n < 2 ^ 31) (h : ∀ k, k < n → ¬ x = nI k) : x.toInt < 0 ∨ (n : Int) - 1 < x.toInt := by
  rcases Int.lt_or_le x.toInt 0 with h1 | h1
  · exact Or.inl h1
  · right
    rcases Int.lt_or_le ((n : Int) - 1) x.toInt with h2 | h2
    · exact h2
    · exfalso
      refine h x.toInt.toNat (by omega) (Int32.toInt_inj.mp ?_)
      rw [nI_toInt (by omega)]
      omega
/-! entry -/
def ent : List Value → List (Option Value)
  | [] => []
  | v :: vs => if v.category = 2 then some v :: none :: ent vs else some v :: ent vs
theorem asc_none : ∀ (n k : Nat), asc k (List.replicate n none) = []
  | 0, _ => rfl
  | n + 1, k => by show asc (k + 1) (List.replicate n none) = []; exact asc_none n (k + 1)
theorem asc_ent : ∀ (vs : List Value) (n k : Nat), asc k (ent vs ++ List.replicate n none) = lv_args k vs
  | [], n, k => asc_none n k
  | v :: vs, n, k => by
    show asc k ((if v.category = 2 then some v :: none :: ent vs else some v :: ent vs) ++ List.replicate n none) = (k, v) :: lv_args (if v.category = 2 then k + 2 else k + 1) vs
    by_cases h : v.category = 2
    · rw [if_pos h, if_pos h, ← asc_ent vs n (k + 2)]
      rfl
    · rw [if_neg h, if_neg h, ← asc_ent vs n (k + 1)]
      rfl
/-- as vx_ofW, for a member that the machine has no entry for, of a class that has entries (follows vx_ofW and va_MetF) -/
theorem vx_ofWF {l : Launch} {y : MethodName} {ws ws' : List Cond} {rm : Room} {Pc : Array Value → State → Prop} {Qc : Array Value → State → Outcome → State → Prop} {XC : String → State → State → Prop} {mc ms : Nat} {free : Addr → Prop} {cc : ByteArray} {maxL : Nat} {ret : Option FieldType}
    (hy : plainFor y = true) (hw : ws = Cond.code y cc maxL ret :: ws')
    (body : ∀ p e s m args below meth c s₁, BodyLoose p l y (headSpec ws rm) cc maxL ret e s m args below meth c s₁ → c.maxLocals = maxL → (∀ x ∈ c.exceptionTable.toList, False) → Pc args s →
      W p l e (headSpec ws rm).room s m args below meth c s.heap [] 0 0 (vx_MQ below Qc XC args s mc ms free) (entryFrame m args maxL)) : vx_Met l y ws rm Pc Qc XC mc ms free := by
  refine MetFree.of_bodySF (code := cc) (maxLocals := maxL) (ret := ret) hy ?_ ?_
  · intro args s m h hn
    obtain ⟨meth, c, h1, h2, h3, h4, h5, h6, -, -⟩ := Cond.code_spec hn (atoms_spec (ws := ws) h _ (by rw [hw]; exact List.mem_cons_self))
    exact ⟨meth, c, h1, h2, h3, h4, h5, h6⟩
  · intro p e s m args below meth c s₁ B hml hP _
    have hh0 : s₁.heap = s.heap := by rw [B.state]; rfl
    have ht : ∀ x ∈ c.exceptionTable.toList, False := by
      obtain ⟨meth9, c9, h1, h2, -, -, -, -, h7, -⟩ := Cond.code_spec B.named (atoms_spec (ws := ws) B.pre _ (by rw [hw]; exact List.mem_cons_self))
      cases Option.some.inj (h1.symm.trans B.method)
      cases Option.some.inj (h2.symm.trans (Stand.of_body B).code)
      intro x hx
      rw [Array.isEmpty_iff.mp h7] at hx
      cases hx
    obtain ⟨t, a1, o, b1, b2, b3⟩ := body p e s m args below meth c s₁ B hml ht hP s₁ hh0 (Stand.of_body B)
    exact ⟨t, o, a1, b1, b2, b3⟩
theorem ofV {l : Launch} {y : MethodName} {cc : ByteArray} {nL : Nat} {rt : Option FieldType} {fr lo : Nat} {Y : Ly} {E : Ev} {base : Nat} {av : List Value} {σ : St} {res : Rs} {σ' : St} {own : String} {L : List (Option Value)} (n : Nat) (hp : plainFor y = true) (ho : y.cls = own) (hE : Adr Y E base) (hnt : l.stackTraces = false) (hlen : (lg_sl av).length ≤ nL) (hL : ent av ++ List.replicate n none = L)
    (body : ∀ M : Program × Launch × Env × Room × State × MethodId × Array Value × List Frame × Method × Code, NoH M → OK (mkX M Y E base nL res σ') cc own rt fr lo → V (mkX M Y E base nL res σ') σ 0 L []) : Ctr l y cc nL rt fr lo Y E base av σ res σ' := by
  intro sz
  refine vx_ofWF (cc := cc) (maxL := nL) (ret := rt) hp rfl ?_
  intro p e s m args below meth c s₁ B hml ht hv
  obtain ⟨rfl, hsz, hb, hP, hA⟩ := hv
  subst hsz
  have hts : ∀ w ∈ Gw, w.before av.toArray s = true := fun w hw => atoms_spec (ws := Cond.code y cc nL rt :: Gw) B.pre w (List.mem_cons_of_mem _ hw)
  have hk := body (p, l, e, { frames := fr, cells := xk res, slots := xs6 res, locals := lo }, s, m, av.toArray, below, meth, c) ht ⟨B.exec, B.bytes, hml, B.notSynchronized, trivial, hnt, by rw [← ho]; exact findClass_of_methodNamed B.named, hts, B.returns, hA, hE, hb, Nat.le_refl _, Nat.le_refl _, Nat.le_of_eq (Nat.zero_add _), Nat.le_of_eq (Nat.zero_add _)⟩
  rw [lg_entry_eq]
  refine hk s.heap [] _ hP va_S.rf ?_
  have hl := lv_entry av (n := nL) hlen
  unfold lvL
  rw [← hL, asc_ent]
  exact hl
/-! the shapes of the pure texts -/
def lp {S R : Type} : Nat → (S → Option (S ⊕ R)) → S → Option R
  | 0, _, _ => none
  | n + 1, f, s => match f s with
    | none => none
    | some (.inl s') => lp n f s'
    | some (.inr r) => some r
def lpP {S R : Type} (P : S → Prop) (K : R → Prop) : S ⊕ R → Prop
  | .inl s => P s
  | .inr r => K r
theorem lp_V {S R : Type} {f : S → Option (S ⊕ R)} (P : S → Prop) (K : R → Prop) (step : ∀ s o, f s = some o → lpP P K o → P s) : ∀ (n : Nat) (s : S) (r : R), lp n f s = some r → K r → P s
  | 0, _, _, h, _ => by cases h
  | n + 1, s, r, h, hk => by
    unfold lp at h
    cases hf : f s with
    | none => rw [hf] at h; cases h
    | some o =>
      rw [hf] at h
      cases o with
      | inl s' => exact step s _ hf (lp_V P K step n s' r h hk)
      | inr r' =>
        cases h
        exact step s _ hf hk
theorem bd {α β : Type} {o : Option α} {k : α → Option β} {r : β} (h : o.bind k = some r) : ∃ a, o = some a ∧ k a = some r := by
  cases o with
  | none => cases h
  | some a => exact ⟨a, rfl, h⟩
/-- a callee that may throw -/
def xB {α β : Type} (o : Option (Except String α × St)) (k : α → St → Option (Except String β × St)) : Option (Except String β × St) := match o with
  | none => none
  | some (.error e, σ) => some (.error e, σ)
  | some (.ok a, σ) => k a σ
theorem xb {α β : Type} {o : Option (Except String α × St)} {k : α → St → Option (Except String β × St)} {F : Except String β × St} (h : xB o k = some F) : (∃ a σ, o = some (.ok a, σ) ∧ k a σ = some F) ∨ ∃ e σ, o = some (.error e, σ) ∧ F = (.error e, σ) := by
  match o, h with
  | some (.error e, σ), h => exact Or.inr ⟨e, σ, rfl, (Option.some.inj h).symm⟩
  | some (.ok a, σ), h => exact Or.inl ⟨a, σ, rfl, h⟩
theorem lf {α β : Type} {v r : α} {k : α → Option β} {F : Option β} (h : some v = some r) (hk : k r = F) : k v = F := by cases h; exact hk
theorem lfc {S R : Type} {P : S → Prop} {K : R → Prop} {s : S} {o : S ⊕ R} (h : some (Sum.inl s) = some o) (hk : lpP P K o) : P s := by cases h; exact hk
theorem lfx {S R : Type} {P : S → Prop} {K : R → Prop} {r : R} {o : S ⊕ R} (h : some (Sum.inr r) = some o) (hk : lpP P K o) : K r := by cases h; exact hk
theorem it {α : Type} {c : Prop} [Decidable c] {a b r : α} (hc : c) (h : (if c then a else b) = r) : a = r := by rw [if_pos hc] at h; exact h
theorem ie {α : Type} {c : Prop} [Decidable c] {a b r : α} (hc : ¬ c) (h : (if c then a else b) = r) : b = r := by rw [if_neg hc] at h; exact h
def rI : Except String Int32 → Rs
  | .ok v => .ok (some (.int v))
  | .error e => .error e
def rL : Except String Int64 → Rs
  | .ok v => .ok (some (.long v))
  | .error e => .error e
def rU : Except String Unit → Rs
  | .ok _ => .ok none
  | .error e => .error e
