/-! the law's own little methods: the class's world and one cell more, a catch -/
def layO : Nat → Nat × Nat := fun i => if i = 28 then (0, 1) else layC i
abbrev YO : Ly := (29, layO, fldC, bsC)
theorem layO_lt {i : Nat} (h : i < 28) : layO i = layC i := if_neg (by omega)
def mgO (σ1 σ : St) : St := (fun a => if a < 28 then σ1.1 a else σ.1 a, fun a => if a < 28 then σ1.2 a else σ.2 a)
theorem wsP {Y : Ly} {E : Ev} {σ : St} {H : Heap} : va_P E.1 vcl (wsOf Y E σ) H ↔ ∀ i, i < Y.1 → va_at E.1 vcl (E.2.2 i, cellOf Y E σ i) H := by
  constructor
  · intro h i hi
    exact h i _ (ws_get hi)
  · intro h k q hk
    obtain ⟨h1, rfl⟩ := ws_some hk
    exact h k h1
theorem cellYO {E : Ev} {σ : St} {i : Nat} (h : i < 28) : cellOf YO E σ i = cellOf YC E σ i := by
  have e : YO.2.1 i = YC.2.1 i := layO_lt h
  unfold cellOf
  rw [e]
theorem AdrOC {E : Ev} {base : Nat} (h : Adr YO E base) : Adr YC E base := ⟨fun i j hi hj => h.1 i j (Nat.lt_trans hi (by decide)) (Nat.lt_trans hj (by decide)), fun i hi => h.2 i (Nat.lt_trans hi (by decide))⟩
theorem YO_down {E : Ev} {σ : St} {H : Heap} (h : va_P E.1 vcl (wsOf YO E σ) H) : va_P E.1 vcl (wsOf YC E σ) H := wsP.mpr fun i hi => by
  have h1 := wsP.mp h i (Nat.lt_trans hi (by decide))
  rw [cellYO hi] at h1
  exact h1
theorem mg_cell {E : Ev} {σ σ1 : St} {i : Nat} (h : i < 28) : cellOf YO E (mgO σ1 σ) i = cellOf YC E σ1 i := by
  rw [cellYO h]
  exact cell_ne (show (if i < 28 then σ1.1 i else σ.1 i) = σ1.1 i from if_pos h) (show (if i < 28 then σ1.2 i else σ.2 i) = σ1.2 i from if_pos h)
theorem mg_cell28 {E : Ev} {σ σ1 : St} : cellOf YO E (mgO σ1 σ) 28 = cellOf YO E σ 28 := cell_ne (show (if (28 : Nat) < 28 then σ1.1 28 else σ.1 28) = σ.1 28 from if_neg (by decide)) (show (if (28 : Nat) < 28 then σ1.2 28 else σ.2 28) = σ.2 28 from if_neg (by decide))
theorem AxOC {E : Ev} {a b : Nat} (h : a ≤ b) {q : Nat} (hq : Ax YC E b q) : Ax YO E a q := by
  rcases hq with ⟨i, h1, h2⟩ | h1
  · exact Or.inl ⟨i, Nat.lt_trans h1 (by decide), h2⟩
  · exact Or.inr (Nat.le_trans h h1)
theorem YO_up {E : Ev} {base : Nat} {σ σ1 : St} {H H1 : Heap} (hE : Adr YO E base) (h : va_P E.1 vcl (wsOf YO E σ) H) (h1 : va_P E.1 vcl (wsOf YC E σ1) H1) (hk : ∀ q : Nat, q < H.size → ¬ Ax YC E H.size q → H1[q]? = H[q]?) : va_P E.1 vcl (wsOf YO E (mgO σ1 σ)) H1 := wsP.mpr fun i hi => by
  by_cases hc : i < 28
  · rw [mg_cell hc]
    exact wsP.mp h1 i hc
  · have h28 : i = 28 := by
      have : i < 29 := hi
      omega
    subst h28
    rw [mg_cell28]
    have h2 := wsP.mp h 28 hi
    refine h2.kept (hk _ h2.lt ?_)
    rintro (⟨j, hj, he⟩ | hz)
    · have h9 := hE.1 j 28 (Nat.lt_trans hj (by decide)) hi he
      have hj' : j < 28 := hj
      omega
    · have := h2.lt
      omega
def gNc : List (String × String) := [("java/lang/IndexOutOfBoundsException", "java/lang/IllegalArgumentException"), ("java/lang/IndexOutOfBoundsException", "java/lang/IllegalStateException"), ("java/lang/IndexOutOfBoundsException", "java/lang/ArithmeticException"), ("java/lang/IllegalArgumentException", "java/lang/IndexOutOfBoundsException"), ("java/lang/IllegalArgumentException", "java/lang/IllegalStateException"), ("java/lang/IllegalArgumentException", "java/lang/ArithmeticException"), ("java/lang/IllegalStateException", "java/lang/IndexOutOfBoundsException"), ("java/lang/IllegalStateException", "java/lang/IllegalArgumentException"), ("java/lang/IllegalStateException", "java/lang/ArithmeticException"), ("java/lang/ArithmeticException", "java/lang/IndexOutOfBoundsException"), ("java/lang/ArithmeticException", "java/lang/IllegalArgumentException"), ("java/lang/ArithmeticException", "java/lang/IllegalStateException")]
def NcG (U : State) : Prop := ∀ q ∈ gNc, va_Nc q.1 q.2 U
def wQ (Y : Ly) (E : Ev) (σ' : St) (k : Int32) (sz : Nat) : Array Value → State → Outcome → State → Prop := fun _ st oc t => (oc = .returned (some (.int k)) ∧ va_P E.1 vcl (wsOf Y E σ') t.heap) ∧ va_F (Ax Y E sz) st t
abbrev MT : Type := Program × Launch × Env × Room × State × MethodId × Array Value × List Frame × Method × Code
abbrev mkW (M : MT) (E : Ev) (base nL kc ks : Nat) (k : Int32) (σ' : St) : XT := (M, YO, E, base, nL, (kc, ks, 20 - kc, 1300 - ks), MQ M.2.2.2.2.2.2.2.1 (wQ YO E σ' k M.2.2.2.2.1.heap.size) M.2.2.2.2.2.2.1 M.2.2.2.2.1 20 1300 (Ax YO E M.2.2.2.2.1.heap.size))
/-- a little method's contract: it answers k, in the state σ' -/
def WCtr (l : Launch) (y : MethodName) (cc : ByteArray) (nL : Nat) (hh : List (Nat × Nat × Nat × Nat)) (fr lo : Nat) (E : Ev) (base : Nat) (av : List Value) (σ : St) (k : Int32) (σ' : St) : Prop :=
  ∀ sz : Nat, Met l y (.codeWith y cc nL (some .int) hh :: Gw) { frames := fr, cells := 20, slots := 1300, locals := lo } (va_Pc av (fun U => U.heap.size = sz ∧ base ≤ sz ∧ va_P E.1 vcl (wsOf YO E σ) U.heap ∧ AmbG E base U ∧ NcG U)) (wQ YO E σ' k sz) 20 1300 (Ax YO E sz)
section WW
variable {M : MT} {E : Ev} {base nL kc ks : Nat} {k : Int32} {σ' : St} {cc : ByteArray} {own : String} {rt : Option FieldType} {fr lo : Nat} {σ : St} {pc : Nat} {L : List (Option Value)} {st : List Value}
theorem v_wret (K : OK (mkW M E base nL kc ks k σ') cc own (some .int) fr lo) (d : decode cc pc = .ok (.ireturn, 1)) (hs : σ' = σ) (h1 : kc ≤ 20) (h2 : ks ≤ 1300) : V (mkW M E base nL kc ks k σ') σ pc L [.int k] := by
  intro H locs ls hP hS hl
  subst hs
  exact W.widen h1 h2 (W.iret K.ex K.cd K.rty (fun t ht _ => ⟨⟨rfl, by rw [ht]; exact hP⟩, hS.F ht⟩) hS.2.2 d K.lk)
theorem w_up (K : OK (mkW M E base nL 0 0 k σ') cc own rt fr lo) : OK (mkW M E base nL 1 6 k σ') cc own rt fr lo := by
  obtain ⟨a1, a2, a3, a4, a5, a6, a7, a8, a9, a10, a11, a12, a13, a14, a15, a16⟩ := K
  exact ⟨a1, a2, a3, a4, a5, a6, a7, a8, a9, a10, a11, a12, a13, a14, a15, a16⟩
theorem w_callV {y : MethodName} {cc' : ByteArray} {nL' fr' lo' n index Nn : Nat} {rt' : Option FieldType} {T : u_T} {As rest st0 : List Value} {res1 : Rs} {σ1 : St} (K : OK (mkW M E base nL 0 0 k σ') cc own rt fr lo) (cv : CalV y cc' nL' rt' n) (hlk : Cond.methodLink own index y ∈ Gw) (hc : vcl[3]? = some (y.cls, T, Nn))
    (hM : Ctr M.2.1 y cc' nL' rt' fr' lo' YC E base (.ref (E.2.2 0) :: As) σ res1 σ1) (hn : As.length = n) (hst : st0 = As.reverse ++ .ref (E.2.2 0) :: rest) (hrm : (rest.map fun v => v.category).sum ≤ 8) (hfr : fr' + 1 ≤ fr) (hlo : 8 + (nL' + 11) + lo' ≤ lo) (d : decode cc pc = .ok (.invokevirtual index, 3))
    (kv : ∀ v, res1 = .ok v → V (mkW M E base nL 0 0 k σ') (mgO σ1 σ) (pc + 3) L (v.toList ++ rest))
    (kx : ∀ (En : String) (H1 : Heap) (locs1 : List Loc) (ls : Array Slot) (ce : Cell) (q : Addr), res1 = .error En → va_P E.1 vcl (wsOf YO E (mgO σ1 σ)) H1 → va_S (Ax YO E M.2.2.2.2.1.heap.size) M.2.2.2.2.1.heap H1 locs1 → lvL ls nL L → H1[q]? = some ce → ce.vm = .none → M.2.2.2.2.1.vm.findClass En = some ce.cls → vx_W M.1 M.2.1 M.2.2.1 M.2.2.2.1 M.2.2.2.2.1 M.2.2.2.2.2.1 M.2.2.2.2.2.2.1 M.2.2.2.2.2.2.2.1 M.2.2.2.2.2.2.2.2.1 M.2.2.2.2.2.2.2.2.2 H1 locs1 (0 + 1) (0 + 6) (mkW M E base nL 0 0 k σ').Q (F0 M.2.2.2.2.2.1 pc ls rest) q) : V (mkW M E base nL 0 0 k σ') σ pc L st0 := by
  intro H locs ls hP hS hl
  obtain ⟨c1, c2, c3, c4, c5, c6, c7⟩ := cv
  have hPC := YO_down hP
  have hE := K.ad
  have hr : vx_Run M.1 M.2.1 M.2.2.1 M.2.2.2.1 M.2.2.2.2.1 M.2.2.2.2.2.1 M.2.2.2.2.2.2.1 M.2.2.2.2.2.2.2.1 M.2.2.2.2.2.2.2.2.1 M.2.2.2.2.2.2.2.2.2 H locs 0 0 (xk res1) (xs6 res1) (F0 M.2.2.2.2.2.1 pc ls st0) rest (qC YC E σ1 res1 H.size (Value.ref (E.2.2 0) :: As).toArray) (qX YC E σ1 res1 H.size) (Ax YC E H.size) := by
    refine vx_runV (Ts := Cond.code y cc' nL' rt' :: Gw) (bytes := cc') (maxL := nL') (ret := rt') (n := n) (C := y.cls) (own := own) (index := index) (As := As) (b := E.2.2 0) ⟨K.ex, K.cd, K.ml, K.ow, fun w hw => (List.mem_cons.mp hw).elim (fun q => by rw [q]; exact K.ts _ c1) (K.ts w)⟩ (hM H.size) ⟨callB_of n (fun w hw => (List.mem_cons.mp hw).elim (fun q => by rw [q]; exact K.ts _ c1) (K.ts w)) (good_cg (c0 := Cond.code y cc' nL' rt') c1) rfl rfl rfl (K.ts _ c4) (K.ts _ hlk) ⟨c5, c6, c7⟩ ⟨Nat.le_trans hfr K.frm, Nat.le_trans hlo K.loc⟩, K.ts _ c2, K.ts _ c3⟩ ⟨fun a U g mk q => ⟨q.1, q.2.1, q.2.2.1, q.2.2.2.1, Amb.same q.2.2.2.2 rfl rfl⟩, ?_, fun U hU hW => ⟨rfl, by rw [hU], Nat.le_trans K.bs hS.1, by rw [hU]; exact hPC, Amb.go K.am hW (fun a h1 h2 => ?_)⟩⟩ rfl hn hl.1 hst (lv_room hrm) d ?_
    · exact va_recv (q := (y.cls, T, Nn)) (q0 := 0) (ci := 3) (fs := fvs E σ 0 0 (fldC 0)) (a := E.2.2 0) K.am.1 hPC hc (by rw [ws_get (by decide), cell_O rfl])
    · rw [hU]
      exact hS.2.1 a h1 (fun q => h2 (Ax_base hE K.bs q))
    · have h1 := K.ce
      have h2 := K.sl
      have e1 : xk res1 ≤ 1 := by cases res1 <;> exact Nat.le_of_ble_eq_true rfl
      have e2 : xs6 res1 ≤ 6 := by cases res1 <;> exact Nat.le_of_ble_eq_true rfl
      have h1' : 0 + 20 ≤ M.2.2.2.1.cells := h1
      have h2' : 0 + 1300 ≤ M.2.2.2.1.slots := h2
      constructor <;> omega
  intro T hT Xs
  rcases hr T hT Xs with ⟨v, st₀, t, T', L2, h0, X', hL, e1, e2, ⟨⟨v9, hv, ho, hp⟩, hF⟩, stp⟩ | ⟨q, st₀, t, T', L2, En, ce, h0, X', hL, e1, e2, ⟨hx, hp, hF⟩, hce, hcv, hcl, stp⟩
  · cases ho
    have hx0 : xk res1 = 0 := by rw [hv]; rfl
    have hs0 : xs6 res1 = 0 := by rw [hv]; rfl
    rw [hx0, hs0] at X'
    obtain ⟨k1, k2, k3⟩ := vx_keep h0 e1 hS (fun q _ h => AxOC hS.1 h) (fun q h => AxOC hS.1 h) hL hF
    obtain ⟨t2, a1, b1⟩ := kv v hv T'.heap (locs ++ L2) ls (YO_up hE hP (by rw [e1]; exact hp) k2) k3 hl T' rfl X'
    exact ⟨t2, stp t2 a1, b1⟩
  · have hx0 : xk res1 = 1 := by rw [hx]; rfl
    have hs0 : xs6 res1 = 6 := by rw [hx]; rfl
    rw [hx0, hs0] at X'
    obtain ⟨k1, k2, k3⟩ := vx_keep h0 e1 hS (fun q _ h => AxOC hS.1 h) (fun q h => AxOC hS.1 h) hL hF
    obtain ⟨t2, a1, b1⟩ := kx En T'.heap (locs ++ L2) ls ce q hx (YO_up hE hP (by rw [e1]; exact hp) k2) k3 hl (by rw [e1]; exact hce) hcv hcl T' rfl X'
    exact ⟨t2, stp.trans a1, b1⟩
/-- caught -/
theorem w_catch {pre suf : List ExceptionTableEntry} {x : ExceptionTableEntry} {En : String} {σ2 : St} {H1 : Heap} {locs1 : List Loc} {ls : Array Slot} {ce : Cell} {q : Addr} {rest : List Value} (K : OK (mkW M E base nL 0 0 k σ') cc own rt fr lo) (hN : NcG M.2.2.2.2.1) (hT : M.2.2.2.2.2.2.2.2.2.exceptionTable.toList = pre ++ x :: suf)
    (hpass : ∀ z ∈ pre, z.catchType ≠ 0 ∧ ∃ nm : String, Cond.classLink own z.catchType nm ∈ Gw ∧ (En, nm) ∈ gNc) (hx : covers x pc = true) (h0 : x.catchType ≠ 0) (hlink : Cond.classLink own x.catchType En ∈ Gw) (hcast : (En, En) ∈ gCst)
    (hP : va_P E.1 vcl (wsOf YO E σ2) H1) (hS : va_S (Ax YO E M.2.2.2.2.1.heap.size) M.2.2.2.2.1.heap H1 locs1) (hl : lvL ls nL L) (hce : H1[q]? = some ce) (hcv : ce.vm = .none) (hcl : M.2.2.2.2.1.vm.findClass En = some ce.cls)
    (kk : V (mkW M E base nL 1 6 k σ') σ2 x.handlerPc L [.ref q]) : vx_W M.1 M.2.1 M.2.2.1 M.2.2.2.1 M.2.2.2.2.1 M.2.2.2.2.2.1 M.2.2.2.2.2.2.1 M.2.2.2.2.2.2.2.1 M.2.2.2.2.2.2.2.2.1 M.2.2.2.2.2.2.2.2.2 H1 locs1 (0 + 1) (0 + 6) (mkW M E base nL 0 0 k σ').Q (F0 M.2.2.2.2.2.1 pc ls rest) q :=
  vx_catch (E := En) (name := En) K.ow pre x suf hT (fun z hz => Or.inr ⟨(hpass z hz).1, by obtain ⟨-, nm, h1, h2⟩ := hpass z hz; exact ⟨nm, K.ts _ h1, hN _ h2⟩⟩) hx h0 (K.ts _ hlink) (va_Nw.use rfl (K.am.2.2.2.2.2.1 _ hcast)) hce hcv hcl (kk H1 locs1 ls hP hS hl)
theorem ofWW {l : Launch} {y : MethodName} {hh : List (Nat × Nat × Nat × Nat)} {av : List Value} (n : Nat) (hp : plainName y.cls = true) (ho : y.cls = own) (hE : Adr YO E base) (hnt : l.stackTraces = false) (hlen : (lg_sl av).length ≤ nL) (hL : ent av ++ List.replicate n none = L)
    (body : ∀ M : MT, M.2.2.2.2.2.2.2.2.2.exceptionTable.toList = tableOf hh → NcG M.2.2.2.2.1 → OK (mkW M E base nL 0 0 k σ') cc own (some .int) fr lo → V (mkW M E base nL 0 0 k σ') σ 0 L []) : WCtr l y cc nL hh fr lo E base av σ k σ' := by
  intro sz
  refine va_MetW (cc := cc) (maxL := nL) (ret := some .int) (hh := hh) hp rfl ?_
  intro p e s m args below meth c s₁ B hml hv
  obtain ⟨rfl, hsz, hb, hP, hA, hNc⟩ := hv
  subst hsz
  have hts : ∀ w ∈ Gw, w.before av.toArray s = true := fun w hw => atoms_spec (ws := Cond.codeWith y cc nL (some .int) hh :: Gw) B.pre w (List.mem_cons_of_mem _ hw)
  have hcw : (Cond.codeWith y cc nL (some .int) hh).before av.toArray s = true := atoms_spec (ws := Cond.codeWith y cc nL (some .int) hh :: Gw) B.pre _ List.mem_cons_self
  have hk := body (p, l, e, { frames := fr, cells := 20, slots := 1300, locals := lo }, s, m, av.toArray, below, meth, c) (vx_table (x := y) B hcw) hNc ⟨B.exec, B.bytes, hml, B.notSynchronized, trivial, hnt, by rw [← ho]; exact findClass_of_methodNamed B.named, hts, B.returns, hA, hE, hb, Nat.le_refl _, Nat.le_refl _, Nat.le_refl _, Nat.le_refl _⟩
  rw [lg_entry_eq]
  refine hk s.heap [] _ hP va_S.rf ?_
  have hl := lv_entry av (n := nL) hlen
  unfold lvL
  rw [← hL, asc_ent]
  exact hl
end WW
theorem ix01 : ix (0 : Int32) 1 = some 0 := by decide
