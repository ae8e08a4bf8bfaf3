/-! fields, arrays, ends, throws, calls, entry: over V -/
def FL (own : String) (index ci k : Nat) : Prop := ∃ (C : String) (T : u_T) (N : Nat), vcl[ci]? = some (C, T, N) ∧ (∀ w ∈ u_ws C T N, w ∈ Gw) ∧ k < N ∧ (T k).1 = C ∧ Cond.fieldLink own index C (T k).2.1 (T k).2.2.1 ∈ Gw
def FW (own : String) (index ci k : Nat) (ty : FieldType) : Prop := ∃ (C : String) (T : u_T) (N : Nat) (ty0 : Nat → FieldType), vcl[ci]? = some (C, T, N) ∧ (∀ w ∈ u_ws C T N, w ∈ Gw) ∧ k < N ∧ (T k).1 = C ∧ Cond.fieldLink own index C (T k).2.1 (T k).2.2.1 ∈ Gw ∧ (∀ k, k < N → parseFieldDescriptor (T k).2.2.1 = some (ty0 k)) ∧ (∀ a, a < N → ∀ b, b < N → a ≠ b → (T a).2.1 ≠ (T b).2.1) ∧ (T k).2.2.2 = false ∧ parseFieldDescriptor (T k).2.2.1 = some ty
theorem cell_O {Y : Ly} {E : Ev} {σ : St} {i k : Nat} (h : Y.2.1 i = (3, k)) : cellOf Y E σ i = .inr (k, fvs E σ i 0 (Y.2.2.1 i)) := by unfold cellOf; rw [h]; rfl
theorem cell_L {Y : Ly} {E : Ev} {σ : St} {i n : Nat} (h : Y.2.1 i = (0, n)) : cellOf Y E σ i = .inl (E.2.1 0, n, .inr (.inl (σ.2 i))) := by unfold cellOf; rw [h]; rfl
theorem cell_I {Y : Ly} {E : Ev} {σ : St} {i n : Nat} (h : Y.2.1 i = (1, n)) : cellOf Y E σ i = .inl (E.2.1 1, n, .inl (σ.1 i)) := by unfold cellOf; rw [h]; rfl
theorem cell_Z {Y : Ly} {E : Ev} {σ : St} {i n : Nat} (h : Y.2.1 i = (2, n)) : cellOf Y E σ i = .inl (E.2.1 2, n, .inl (σ.1 i)) := by unfold cellOf; rw [h]; rfl
theorem cell_R {Y : Ly} {E : Ev} {σ : St} {i n : Nat} (h : Y.2.1 i = (4, n)) : cellOf Y E σ i = .inl (E.2.1 3, n, .inr (.inr (.inr (.inr (fun k => some (E.2.2 (Y.2.2.2 i + k))))))) := by unfold cellOf; rw [h]; rfl
/-- a place in a row of n, if it is there -/
def ix (x : Int32) (n : Nat) : Option Nat := if x < 0 ∨ n ≤ x.toNatClampNeg then none else some x.toNatClampNeg
theorem ix_in {x : Int32} {n j : Nat} (h : ix x n = some j) : vp_in x n := by
  unfold ix at h
  split at h
  · cases h
  · assumption
theorem ix_eq {x : Int32} {n j : Nat} (h : ix x n = some j) : x.toNatClampNeg = j := by
  unfold ix at h
  split at h
  · cases h
  · exact Option.some.inj h
theorem ix_lt {x : Int32} {n j : Nat} (h : ix x n = some j) : j < n := by
  rw [← ix_eq h]
  exact Nat.not_le.mp fun q => ix_in h (Or.inr q)
/-- yes or no out of an int, as the machine keeps it -/
def nz (x : Int32) : Int32 := x &&& 1
theorem Ax_up {Y : Ly} {E : Ev} {a b : Nat} (h : a ≤ b) {q : Nat} (hq : Ax Y E b q) : Ax Y E a q := hq.elim Or.inl (fun z => Or.inr (Nat.le_trans h z))
theorem Ax_base {Y : Ly} {E : Ev} {base sz : Nat} (hE : Adr Y E base) (hb : base ≤ sz) {q : Nat} (h : Ax Y E sz q) : base ≤ q := by
  rcases h with ⟨i, h1, h2⟩ | h
  · rw [← h2]; exact hE.2 i h1
  · omega
section VHEAP
variable {X : XT} {cc : ByteArray} {own : String} {rt : Option FieldType} {fr lo : Nat} {σ : St} {pc : Nat} {L : List (Option Value)} {st : List Value}
theorem v_getR {i ci k a index : Nat} (K : OK X cc own rt fr lo) (f : FL own index ci k) (d : decode cc pc = .ok (.getfield index, 3)) (hi : i < X.Y.1) (hy : X.Y.2.1 i = (3, ci)) (hf : (X.Y.2.2.1 i)[k]? = some (some a)) (kk : V X σ (pc + 3) L (.ref (X.E.2.2 a) :: st)) : V X σ pc L (.ref (X.E.2.2 i) :: st) := by
  intro H locs ls hP hS hl
  obtain ⟨C, T, N, hc, hin, hk, h1, hlk⟩ := f
  exact va_get (D := X.E.1) (ws := wsOf X.Y X.E σ) (ci := ci) (C := C) (T := T) (N := N) (ref := C) K.ex K.cd K.ts hin K.ow K.am.1 hP i (by rw [ws_get hi, cell_O hy]) hc k hk (K.ts _ hlk) (by rw [h1]; exact fun _ h => h) (fvs_get X.E σ i _ 0 k _ hf) d (kk H locs ls hP hS hl)
theorem v_getI {i ci k index : Nat} (K : OK X cc own rt fr lo) (f : FL own index ci k) (d : decode cc pc = .ok (.getfield index, 3)) (hi : i < X.Y.1) (hy : X.Y.2.1 i = (3, ci)) (hf : (X.Y.2.2.1 i)[k]? = some none) (kk : V X σ (pc + 3) L (.int (σ.1 i k) :: st)) : V X σ pc L (.ref (X.E.2.2 i) :: st) := by
  intro H locs ls hP hS hl
  obtain ⟨C, T, N, hc, hin, hk, h1, hlk⟩ := f
  have hv := fvs_get X.E σ i _ 0 k _ hf
  rw [Nat.zero_add] at hv
  exact va_get (D := X.E.1) (ws := wsOf X.Y X.E σ) (ci := ci) (C := C) (T := T) (N := N) (ref := C) K.ex K.cd K.ts hin K.ow K.am.1 hP i (by rw [ws_get hi, cell_O hy]) hc k hk (K.ts _ hlk) (by rw [h1]; exact fun _ h => h) hv d (kk H locs ls hP hS hl)
theorem v_put {i ci k index : Nat} {ty : FieldType} {v : Int32} (K : OK X cc own rt fr lo) (f : FW own index ci k ty) (d : decode cc pc = .ok (.putfield index, 3)) (hn : narrow ty (.int v) = .int v) (hfit : fits ty (.int v) = true) (hi : i < X.Y.1) (hy : X.Y.2.1 i = (3, ci)) (hf : (X.Y.2.2.1 i)[k]? = some none) (kk : V X (sI σ i k v) (pc + 3) L st) : V X σ pc L (.int v :: .ref (X.E.2.2 i) :: st) := by
  intro H locs ls hP hS hl
  obtain ⟨C, T, N, ty0, hc, hin, hk, h1, hlk, hty, hnm, hfin, hd⟩ := f
  refine va_put (D := X.E.1) (A := Ax X.Y X.E X.s.heap.size) (ws := wsOf X.Y X.E σ) (ci := ci) (C := C) (T := T) (N := N) (ref := C) (ty := ty) K.ex K.cd K.ts hin ty0 hty hnm K.ow K.am.1 hP (ws_D K.ad) hS i (by rw [ws_get hi, cell_O hy]) hc k hk (K.ts _ hlk) (by rw [h1]; exact fun _ h => h) hfin hd hn hfit (by rw [fvs_len]; exact (List.getElem?_eq_some_iff.mp hf).1) d (fun H1 locs1 hP1 _ hS1 => kk H1 locs1 ls ?_ hS1 hl)
  rw [ws_set (Y := X.Y) (E := X.E) (σ := σ) (i := i) (σ' := sI σ i k v) (by rw [cell_O hy, fvs_set X.E σ i v _ 0 k hf, Nat.zero_add]) (fun j hj => cell_ne (sI_ne hj) rfl)] at hP1
  exact hP1
theorem v_laload {i n j : Nat} {x : Int32} (K : OK X cc own rt fr lo) (d : decode cc pc = .ok (.laload, 1)) (hi : i < X.Y.1) (hy : X.Y.2.1 i = (0, n)) (hx : ix x n = some j) (kk : V X σ (pc + 1) L (.long (σ.2 i j) :: st)) : V X σ pc L (.int x :: .ref (X.E.2.2 i) :: st) := by
  intro H locs ls hP hS hl
  exact va_lald (D := X.E.1) (ws := wsOf X.Y X.E σ) (f := σ.2 i) (n := n) K.ex K.cd K.am.1 hP i 0 (by rw [ws_get hi, cell_L hy]) rfl (ix_in hx) d (by rw [ix_eq hx]; exact kk H locs ls hP hS hl)
theorem v_iaload {i n j : Nat} {x : Int32} (K : OK X cc own rt fr lo) (d : decode cc pc = .ok (.iaload, 1)) (hi : i < X.Y.1) (hy : X.Y.2.1 i = (1, n)) (hx : ix x n = some j) (kk : V X σ (pc + 1) L (.int (σ.1 i j) :: st)) : V X σ pc L (.int x :: .ref (X.E.2.2 i) :: st) := by
  intro H locs ls hP hS hl
  exact va_iald (D := X.E.1) (ws := wsOf X.Y X.E σ) (f := σ.1 i) (n := n) K.ex K.cd K.am.1 hP i 1 (by rw [ws_get hi, cell_I hy]) rfl (ix_in hx) d (by rw [ix_eq hx]; exact kk H locs ls hP hS hl)
theorem v_zaload {i n j : Nat} {x : Int32} (K : OK X cc own rt fr lo) (d : decode cc pc = .ok (.baload, 1)) (hi : i < X.Y.1) (hy : X.Y.2.1 i = (2, n)) (hx : ix x n = some j) (kk : V X σ (pc + 1) L (.int (σ.1 i j) :: st)) : V X σ pc L (.int x :: .ref (X.E.2.2 i) :: st) := by
  intro H locs ls hP hS hl
  exact va_zald (D := X.E.1) (ws := wsOf X.Y X.E σ) (f := σ.1 i) (n := n) K.ex K.cd K.am.1 hP i 2 (by rw [ws_get hi, cell_Z hy]) rfl (ix_in hx) d (by rw [ix_eq hx]; exact kk H locs ls hP hS hl)
theorem v_aaload {i n j : Nat} {x : Int32} (K : OK X cc own rt fr lo) (d : decode cc pc = .ok (.aaload, 1)) (hi : i < X.Y.1) (hy : X.Y.2.1 i = (4, n)) (hx : ix x n = some j) (kk : V X σ (pc + 1) L (.ref (X.E.2.2 (X.Y.2.2.2 i + j)) :: st)) : V X σ pc L (.int x :: .ref (X.E.2.2 i) :: st) := by
  intro H locs ls hP hS hl
  have ha : (wsOf X.Y X.E σ)[i]? = some (X.E.2.2 i, .inl (X.E.2.1 3, n, .inr (.inr (.inr (.inr (fun k => some (X.E.2.2 (X.Y.2.2.2 i + k)))))))) := by rw [ws_get hi, cell_R hy]
  have hlt : x.toNatClampNeg < n := by rw [ix_eq hx]; exact ix_lt hx
  refine W.aald (v := .ref (X.E.2.2 (X.Y.2.2.2 i + j))) (ty := .array .long) K.ex K.cd (hP i _ ha) ((K.am.1.2 3 _ rfl).1 n (fun j => va_rf (some (X.E.2.2 (X.Y.2.2.2 i + j))))) rfl (fun q => by cases q) (by show ¬ (x < 0 ∨ (arrV _ _ _).slots.size ≤ _); rw [arrV_size]; exact ix_in hx) (by show (arrV _ _ _).slots[_]? = _; rw [arrV_read _ _ hlt, ix_eq hx]; rfl) rfl rfl d (kk H locs ls hP hS hl)
theorem v_lastore {i n j : Nat} {x : Int32} {v : Int64} (K : OK X cc own rt fr lo) (d : decode cc pc = .ok (.lastore, 1)) (hi : i < X.Y.1) (hy : X.Y.2.1 i = (0, n)) (hx : ix x n = some j) (kk : V X (sL σ i j v) (pc + 1) L st) : V X σ pc L (.long v :: .int x :: .ref (X.E.2.2 i) :: st) := by
  intro H locs ls hP hS hl
  refine va_last (D := X.E.1) (A := Ax X.Y X.E X.s.heap.size) (ws := wsOf X.Y X.E σ) (f := σ.2 i) (n := n) K.ex K.cd K.am.1 hP (ws_D K.ad) hS i 0 (by rw [ws_get hi, cell_L hy]) rfl (ix_in hx) d (fun H1 locs1 hP1 _ hS1 => kk H1 locs1 ls ?_ hS1 hl)
  rw [ix_eq hx, ws_set (Y := X.Y) (E := X.E) (σ := σ) (i := i) (σ' := sL σ i j v) (by rw [cell_L hy, sL_self]) (fun q hq => cell_ne rfl (sL_ne hq))] at hP1
  exact hP1
theorem v_iastore {i n j : Nat} {x v : Int32} (K : OK X cc own rt fr lo) (d : decode cc pc = .ok (.iastore, 1)) (hi : i < X.Y.1) (hy : X.Y.2.1 i = (1, n)) (hx : ix x n = some j) (kk : V X (sI σ i j v) (pc + 1) L st) : V X σ pc L (.int v :: .int x :: .ref (X.E.2.2 i) :: st) := by
  intro H locs ls hP hS hl
  refine va_iast (D := X.E.1) (A := Ax X.Y X.E X.s.heap.size) (ws := wsOf X.Y X.E σ) (f := σ.1 i) (n := n) K.ex K.cd K.am.1 hP (ws_D K.ad) hS i 1 (by rw [ws_get hi, cell_I hy]) rfl (ix_in hx) d (fun H1 locs1 hP1 _ hS1 => kk H1 locs1 ls ?_ hS1 hl)
  rw [ix_eq hx, ws_set (Y := X.Y) (E := X.E) (σ := σ) (i := i) (σ' := sI σ i j v) (by rw [cell_I hy, sI_self]) (fun q hq => cell_ne (sI_ne hq) rfl)] at hP1
  exact hP1
theorem v_zastore {i n j : Nat} {x v : Int32} (K : OK X cc own rt fr lo) (d : decode cc pc = .ok (.bastore, 1)) (hi : i < X.Y.1) (hy : X.Y.2.1 i = (2, n)) (hx : ix x n = some j) (kk : V X (sI σ i j (nz v)) (pc + 1) L st) : V X σ pc L (.int v :: .int x :: .ref (X.E.2.2 i) :: st) := by
  intro H locs ls hP hS hl
  refine va_zast (D := X.E.1) (A := Ax X.Y X.E X.s.heap.size) (ws := wsOf X.Y X.E σ) (f := σ.1 i) (n := n) K.ex K.cd K.am.1 hP (ws_D K.ad) hS i 2 (by rw [ws_get hi, cell_Z hy]) rfl (ix_in hx) d (fun H1 locs1 hP1 _ hS1 => kk H1 locs1 ls ?_ hS1 hl)
  rw [ix_eq hx, show vp_nar .boolean v = nz v from rfl, ws_set (Y := X.Y) (E := X.E) (σ := σ) (i := i) (σ' := sI σ i j (nz v)) (by rw [cell_Z hy, sI_self]) (fun q hq => cell_ne (sI_ne hq) rfl)] at hP1
  exact hP1
/-! ends -/
/-- a method's own frame: it ends as res says, in the state se -/
abbrev mkQ (M : Program × Launch × Env × Room × State × MethodId × Array Value × List Frame × Method × Code) (Y : Ly) (E : Ev) (res : Rs) (se : St) : State → Prop := vx_MQ M.2.2.2.2.2.2.2.1 (qC Y E se res M.2.2.2.2.1.heap.size) (qX Y E se res M.2.2.2.2.1.heap.size) M.2.2.2.2.2.2.1 M.2.2.2.2.1 (xk res) (xs6 res) (Ax Y E M.2.2.2.2.1.heap.size)
abbrev mkX (M : Program × Launch × Env × Room × State × MethodId × Array Value × List Frame × Method × Code) (Y : Ly) (E : Ev) (base nL : Nat) (res : Rs) (se : St) : XT := (M, Y, E, base, nL, (0, 0, xk res, xs6 res), mkQ M Y E res se)
/-- no handler: an exception leaves -/
def NoH (M : Program × Launch × Env × Room × State × MethodId × Array Value × List Frame × Method × Code) : Prop := ∀ x ∈ M.2.2.2.2.2.2.2.2.2.exceptionTable.toList, False
end VHEAP
section VEND
variable {M : Program × Launch × Env × Room × State × MethodId × Array Value × List Frame × Method × Code} {Y : Ly} {E : Ev} {base nL : Nat} {res : Rs} {se : St} {cc : ByteArray} {own : String} {rt : Option FieldType} {fr lo : Nat} {σ : St} {pc : Nat} {L : List (Option Value)} {st : List Value}
theorem qC_end {H : Heap} {locs : List Loc} {v : Option Value} (hr : res = .ok v) (hs : se = σ) (hP : va_P E.1 vcl (wsOf Y E σ) H) (hS : va_S (Ax Y E M.2.2.2.2.1.heap.size) M.2.2.2.2.1.heap H locs) : ∀ t : State, t.heap = H → M.2.2.2.2.1.WarmedH t.vm → qC Y E se res M.2.2.2.2.1.heap.size M.2.2.2.2.2.2.1 M.2.2.2.2.1 (.returned v) t :=
  fun t ht _ => ⟨⟨v, hr, rfl, by rw [ht, hs]; exact hP⟩, hS.F ht⟩
theorem v_iret {v : Int32} (K : OK (mkX M Y E base nL res se) cc own (some .int) fr lo) (d : decode cc pc = .ok (.ireturn, 1)) (hr : res = .ok (some (.int v))) (hs : se = σ) : V (mkX M Y E base nL res se) σ pc L [.int v] := by
  intro H locs ls hP hS hl
  have hq := qC_end hr hs hP hS
  subst hr
  exact vx_ret (W.iret K.ex K.cd K.rty hq hS.2.2 d K.lk)
theorem v_lret {v : Int64} (K : OK (mkX M Y E base nL res se) cc own (some .long) fr lo) (d : decode cc pc = .ok (.lreturn, 1)) (hr : res = .ok (some (.long v))) (hs : se = σ) : V (mkX M Y E base nL res se) σ pc L [.long v] := by
  intro H locs ls hP hS hl
  have hq := qC_end hr hs hP hS
  subst hr
  exact vx_ret (W.lret K.ex K.cd K.rty hq hS.2.2 d K.lk)
theorem v_vret (K : OK (mkX M Y E base nL res se) cc own none fr lo) (d : decode cc pc = .ok (.return_, 1)) (hr : res = .ok none) (hs : se = σ) : V (mkX M Y E base nL res se) σ pc L [] := by
  intro H locs ls hP hS hl
  have hq := qC_end hr hs hP hS
  subst hr
  exact vx_ret (W.vret K.ex K.cd K.rty hq hS.2.2 d K.lk)
/-- yes or no goes back as the machine narrows it -/
theorem W_zretN {p : Program} {l : Launch} {e : Env} {R : Room} {s : State} {m : MethodId} {args : Array Value} {below : List Frame} {meth : Method} {c : Code} {H : Heap} {locs : List Loc} {cells slots : Nat} {cc : ByteArray} {Qc : Array Value → State → Outcome → State → Prop} {free : Addr → Prop} {v : Int32} (hexec : p.tables.exec = Jvm.exec) (hb : c.code = cc) (hr : meth.sig.returnType = some .boolean)
    (hq : ∀ t : State, t.heap = H → s.WarmedH t.vm → Qc args s (.returned (some (.int (nz v)))) t) (hf : ∀ q ∈ locs, free q.base)
    {pc : Nat} {ls : Array Slot} (hdg : decode cc pc = .ok (.ireturn, 1)) (hlocks : meth.locks = false) : W p l e R s m args below meth c H locs cells slots (MQ below Qc args s cells slots free) (F0 m pc ls [.int v]) := by
  intro T hT X
  have hn : narrow .boolean (.int v) = .int (nz v) := rfl
  obtain ⟨fs, hret, hrun, hended, hW, hframe⟩ := X.leave (v := some (.int (nz v))) (hlocks := hlocks) (fun h => by rw [hr] at h; cases h)
  have hmeth' : T.vm.method? m = some meth := X.method'
  refine ⟨T.setFrames fs, ?_, .returned (some (.int (nz v))), hrun, hended, hq _ hT hW, locs, ⟨⟨_, rfl⟩, hW, hframe⟩, hf⟩
  jvm_step X.here [X.here.top, hexec, hb, hdg, hmeth', hr, hn]
  (try refine ⟨rfl, ?_⟩); (try refine ⟨rfl, ?_⟩)
  first | (intro acts; rw [hret _ acts rfl rfl rfl]) | rw [hret _ _ rfl rfl rfl]
  exact Steps.refl _
theorem v_zret {v : Int32} (K : OK (mkX M Y E base nL res se) cc own (some .boolean) fr lo) (d : decode cc pc = .ok (.ireturn, 1)) (hr : res = .ok (some (.int (nz v)))) (hs : se = σ) : V (mkX M Y E base nL res se) σ pc L [.int v] := by
  intro H locs ls hP hS hl
  have hq := qC_end hr hs hP hS
  subst hr
  exact vx_ret (W_zretN K.ex K.cd K.rty hq hS.2.2 d K.lk)
/-- throw new E("text") -/
def TW (own cls : String) (ik ic : Nat) : Prop := Bundle.fit cls = true ∧ Cond.classLink own ik cls ∈ Gw ∧ Cond.initialized cls ∈ Gw ∧ (cls, cls) ∈ gCst ∧ (∀ w ∈ vx_atS own ic cls ["java/lang/RuntimeException", "java/lang/Exception"], w ∈ Gw ∨ w = .castable cls cls ∨ w ∈ gDcl.map Cond.declares) ∧ (∀ w ∈ Cond.classLink own ik cls :: Cond.initialized cls :: vx_atS own ic cls ["java/lang/RuntimeException", "java/lang/Exception"], vx_ot w = true)
theorem v_throw {cls text : String} {ik is ic : Nat} (K : OK (mkX M Y E base nL res se) cc own rt fr lo) (hN : NoH M) (w : TW own cls ik ic) (hst : (own, is, text) ∈ gStr)
    (d0 : decode cc pc = .ok (.new ik, 3)) (d3 : decode cc (pc + 3) = .ok (.dup, 1)) (d4 : decode cc (pc + 4) = .ok (.ldc_w is, 3)) (d7 : decode cc (pc + 7) = .ok (.invokespecial ic, 3)) (d10 : decode cc (pc + 10) = .ok (.athrow, 1))
    (hf : 6 ≤ fr) (hlo : 100 ≤ lo) (hr : res = .error cls) (hs : se = σ) : V (mkX M Y E base nL res se) σ pc L [] := by
  intro H locs ls hP hS hl
  obtain ⟨w1, w2, w3, w4, w5, w6⟩ := w
  obtain ⟨a1, a2, a3, a4, a5, a6, a7⟩ := K.am
  obtain ⟨sa, hsa⟩ := a4 _ hst
  have hA : ∀ q, Ax Y E M.2.2.2.2.1.heap.size q → base ≤ q := fun q h => Ax_base K.ad K.bs h
  have hce := K.ce
  have hsl := K.sl
  subst hr
  subst hs
  have hfr := K.frm
  have hlc := K.loc
  have hf1 : ["java/lang/RuntimeException", "java/lang/Exception"].length + 3 < M.2.2.2.1.frames := Nat.lt_of_lt_of_le (by decide) (Nat.le_trans hf hfr)
  have hl1 : (([] : List Value).map fun v => v.category).sum + (13 * (["java/lang/RuntimeException", "java/lang/Exception"].length + 1) + 43) ≤ M.2.2.2.1.locals := Nat.le_trans (by decide) (Nat.le_trans hlo hlc)
  refine vx_throwSW (names := ["java/lang/RuntimeException", "java/lang/Exception"]) (cls := cls) K.ex K.cd K.nt K.ow w1 (by intro n hn; simp at hn; rcases hn with rfl | rfl <;> decide) (K.ts _ w2) (K.ts _ w3) hsa (fun w hw => ?_) w6 (vx_Zq.narrow a2 hA) (vx_Zq.narrow a3 hA) hS (by rw [K.ml]; exact hl.1) d0 d3 d4 d7 d10 (fun x hx => (hN x hx).elim) hf1 hl1 hce hsl K.lk (fun t ht h1 h2 => ?_) hS.2.2 (Nat.le_refl 1) (Nat.le_refl 6)
  · rcases w5 w hw with h | h | h
    · exact K.ts _ h
    · rw [h]; exact va_Nw.use rfl (a6 _ w4)
    · obtain ⟨x, hx, rfl⟩ := List.mem_map.mp h
      exact va_Nw.use rfl (a7 _ hx)
  · refine ⟨rfl, ?_, Nat.le_trans hS.1 h1, fun q hq hn => ?_⟩
    · exact va_P.kept hP (fun k q hk => h2 q.1 ((hP k q hk).lt))
    · rw [h2 q (Nat.lt_of_lt_of_le hq hS.1)]
      exact hS.2.1 q hq hn
end VEND
