/-! constructors: a world as a list that grows -/
theorem va_AOA.moved {ty : FieldType} {u U : State} (hvm : u.vm.Alike U.vm) (h : va_AOA ty u) : va_AOA ty U := Jvm.Stand.arrayOver_alikeB hvm h
def AmbK (E : Ev) (base : Nat) (U : State) : Prop := AmbG E base U ∧ va_K E.1 vcl [(E.2.1 4, .object RX1)] U ∧ va_AO RX1 U ∧ va_AOA .long U
theorem AmbK.go {E : Ev} {base : Nat} {s U : State} (h : AmbK E base s) (hW : s.WarmedH U.vm) (hk : ∀ a : Nat, a < s.heap.size → ¬ base ≤ a → U.heap[a]? = s.heap[a]?) : AmbK E base U := ⟨Amb.go h.1 hW hk, va_K.moved hW.alike h.2.1, va_AO.moved hW.alike h.2.2.1, va_AOA.moved hW.alike h.2.2.2⟩
theorem AmbK.same {E : Ev} {base : Nat} {s U : State} (h : AmbK E base s) (hv : s.vm = U.vm) (hh : U.heap = s.heap) : AmbK E base U := by
  have hal : s.vm.Alike U.vm := by rw [hv]; exact Vm.Alike.refl _
  exact ⟨Amb.same h.1 hv hh, va_K.moved hal h.2.1, va_AO.moved hal h.2.2.1, va_AOA.moved hal h.2.2.2⟩
def VC (M : MT) (E : Ev) (A : Nat → Prop) (nL : Nat) (Q : State → Prop) (kc ks : Nat) (ws : va_W) (pc : Nat) (L : List (Option Value)) (st : List Value) : Prop :=
  ∀ (H : Heap) (locs : List Loc) (ls : Array Slot), va_P E.1 vcl ws H → va_D A ws → va_S A M.2.2.2.2.1.heap H locs → lvL ls nL L → W M.1 M.2.1 M.2.2.1 M.2.2.2.1 M.2.2.2.2.1 M.2.2.2.2.2.1 M.2.2.2.2.2.2.1 M.2.2.2.2.2.2.2.1 M.2.2.2.2.2.2.2.2.1 M.2.2.2.2.2.2.2.2.2 H locs kc ks Q (F0 M.2.2.2.2.2.1 pc ls st)
def OKc (M : MT) (E : Ev) (A : Nat → Prop) (nL : Nat) (cc : ByteArray) (own : String) (base fr lo mc ms : Nat) : Prop :=
  M.1.tables.exec = Jvm.exec ∧ M.2.2.2.2.2.2.2.2.2.code = cc ∧ M.2.2.2.2.2.2.2.2.2.maxLocals = nL ∧ M.2.2.2.2.2.2.2.2.1.locks = false ∧ M.2.2.2.2.2.2.2.2.1.name = "<init>" ∧ M.2.2.2.2.1.vm.findClass own = some M.2.2.2.2.2.1.cls ∧ (∀ w ∈ Gw, w.before M.2.2.2.2.2.2.1 M.2.2.2.2.1 = true) ∧ M.2.2.2.2.2.2.2.2.1.sig.returnType = none ∧ AmbK E base M.2.2.2.2.1 ∧ (∀ q : Nat, M.2.2.2.2.1.heap.size ≤ q → A q) ∧ base ≤ M.2.2.2.2.1.heap.size ∧ (∀ q : Nat, A q → base ≤ q) ∧ fr ≤ M.2.2.2.1.frames ∧ lo ≤ M.2.2.2.1.locals ∧ mc ≤ M.2.2.2.1.cells ∧ ms ≤ M.2.2.2.1.slots
theorem arrV_cg {c : ClassId} {n : Nat} {f g : Nat → Value} (h : ∀ j, j < n → f j = g j) : arrV c n f = arrV c n g := by
  have e : (arrV c n f).slots = (arrV c n g).slots := by
    apply Array.ext
    · rw [arrV_size, arrV_size]
    · intro i h1 h2
      have hi : i < n := by rw [arrV_size] at h1; exact h1
      have q1 := arrV_read c f hi
      have q2 := arrV_read c g hi
      rw [Array.getElem?_eq_getElem h1] at q1
      rw [Array.getElem?_eq_getElem h2] at q2
      rw [Option.some.inj q1, Option.some.inj q2, h i hi]
  show ({ cls := c, slots := (arrV c n f).slots, vm := .none } : Cell) = { cls := c, slots := (arrV c n g).slots, vm := .none }
  rw [e]
abbrev zL (E : Ev) (n : Nat) : va_E := .inl (E.2.1 0, n, .inr (.inl (fun _ => 0)))
abbrev zI (E : Ev) (n : Nat) : va_E := .inl (E.2.1 1, n, .inl (fun _ => 0))
abbrev zZ (E : Ev) (n : Nat) : va_E := .inl (E.2.1 2, n, .inl (fun _ => 0))
section VCR
variable {M : MT} {E : Ev} {A : Nat → Prop} {nL : Nat} {Q : State → Prop} {kc ks : Nat} {ws : va_W} {pc : Nat} {L : List (Option Value)} {st : List Value} {cc : ByteArray} {own : String} {base fr lo mc ms : Nat}
theorem OKc.ex (K : OKc M E A nL cc own base fr lo mc ms) : M.1.tables.exec = Jvm.exec := K.1
theorem OKc.cd (K : OKc M E A nL cc own base fr lo mc ms) : M.2.2.2.2.2.2.2.2.2.code = cc := K.2.1
theorem OKc.ml (K : OKc M E A nL cc own base fr lo mc ms) : M.2.2.2.2.2.2.2.2.2.maxLocals = nL := K.2.2.1
theorem OKc.lk (K : OKc M E A nL cc own base fr lo mc ms) : M.2.2.2.2.2.2.2.2.1.locks = false := K.2.2.2.1
theorem OKc.nm (K : OKc M E A nL cc own base fr lo mc ms) : M.2.2.2.2.2.2.2.2.1.name = "<init>" := K.2.2.2.2.1
theorem OKc.ow (K : OKc M E A nL cc own base fr lo mc ms) : M.2.2.2.2.1.vm.findClass own = some M.2.2.2.2.2.1.cls := K.2.2.2.2.2.1
theorem OKc.ts (K : OKc M E A nL cc own base fr lo mc ms) : ∀ w ∈ Gw, w.before M.2.2.2.2.2.2.1 M.2.2.2.2.1 = true := K.2.2.2.2.2.2.1
theorem OKc.rty (K : OKc M E A nL cc own base fr lo mc ms) : M.2.2.2.2.2.2.2.2.1.sig.returnType = none := K.2.2.2.2.2.2.2.1
theorem OKc.am (K : OKc M E A nL cc own base fr lo mc ms) : AmbK E base M.2.2.2.2.1 := K.2.2.2.2.2.2.2.2.1
theorem OKc.hA (K : OKc M E A nL cc own base fr lo mc ms) : ∀ q : Nat, M.2.2.2.2.1.heap.size ≤ q → A q := K.2.2.2.2.2.2.2.2.2.1
theorem OKc.bs (K : OKc M E A nL cc own base fr lo mc ms) : base ≤ M.2.2.2.2.1.heap.size := K.2.2.2.2.2.2.2.2.2.2.1
theorem OKc.Ab (K : OKc M E A nL cc own base fr lo mc ms) : ∀ q : Nat, A q → base ≤ q := K.2.2.2.2.2.2.2.2.2.2.2.1
theorem OKc.frm (K : OKc M E A nL cc own base fr lo mc ms) : fr ≤ M.2.2.2.1.frames := K.2.2.2.2.2.2.2.2.2.2.2.2.1
theorem OKc.loc (K : OKc M E A nL cc own base fr lo mc ms) : lo ≤ M.2.2.2.1.locals := K.2.2.2.2.2.2.2.2.2.2.2.2.2.1
theorem OKc.ce (K : OKc M E A nL cc own base fr lo mc ms) : mc ≤ M.2.2.2.1.cells := K.2.2.2.2.2.2.2.2.2.2.2.2.2.2.1
theorem OKc.sl (K : OKc M E A nL cc own base fr lo mc ms) : ms ≤ M.2.2.2.1.slots := K.2.2.2.2.2.2.2.2.2.2.2.2.2.2.2
theorem k_al0 {o : Nat} {t : List (Option Value)} (K : OKc M E A nL cc own base fr lo mc ms) (d : decode cc pc = .ok (.aload_n 0, 1)) (k : VC M E A nL Q kc ks ws (pc + 1) (some (.ref o) :: t) (.ref o :: st)) : VC M E A nL Q kc ks ws pc (some (.ref o) :: t) st := fun H locs ls hP hD hS hl => lv_aload_n K.ex K.cd d rfl (lvL_at hl rfl) (k H locs ls hP hD hS hl)
theorem k_ic {n : Int} {v : Int32} (K : OKc M E A nL cc own base fr lo mc ms) (d : decode cc pc = .ok (.iconst n, 1)) (hv : Int32.ofInt n = v) (k : VC M E A nL Q kc ks ws (pc + 1) L (.int v :: st)) : VC M E A nL Q kc ks ws pc L st := fun H locs ls hP hD hS hl => lv_iconst K.ex K.cd d hv (k H locs ls hP hD hS hl)
theorem k_bi {n : Int} {v : Int32} (K : OKc M E A nL cc own base fr lo mc ms) (d : decode cc pc = .ok (.bipush n, 2)) (hv : (Int8.ofInt n).toInt32 = v) (k : VC M E A nL Q kc ks ws (pc + 2) L (.int v :: st)) : VC M E A nL Q kc ks ws pc L st := fun H locs ls hP hD hS hl => lv_bipush K.ex K.cd d hv (k H locs ls hP hD hS hl)
theorem k_si {n : Int} {v : Int32} (K : OKc M E A nL cc own base fr lo mc ms) (d : decode cc pc = .ok (.sipush n, 3)) (hv : (Int16.ofInt n).toInt32 = v) (k : VC M E A nL Q kc ks ws (pc + 3) L (.int v :: st)) : VC M E A nL Q kc ks ws pc L st := fun H locs ls hP hD hS hl => lv_sipush K.ex K.cd d hv (k H locs ls hP hD hS hl)
theorem k_dup {o : Nat} (K : OKc M E A nL cc own base fr lo mc ms) (d : decode cc pc = .ok (.dup, 1)) (k : VC M E A nL Q kc ks ws (pc + 1) L (.ref o :: .ref o :: st)) : VC M E A nL Q kc ks ws pc L (.ref o :: st) := fun H locs ls hP hD hS hl => lv_dup K.ex K.cd d rfl (k H locs ls hP hD hS hl)
theorem k_obj {o idx : Nat} (K : OKc M E A nL cc own base fr lo mc ms) (hlk : Cond.methodLink own idx Lib.objectInit ∈ Gw) (h1 : Cond.instanceMethod Lib.objectInit ∈ Gw) (h2 : Cond.code Lib.objectInit ⟨#[0xb1]⟩ 1 none ∈ Gw) (d : decode cc pc = .ok (.invokespecial idx, 3)) (hf : 1 ≤ fr) (hl0 : 12 ≤ lo) (k : VC M E A nL Q kc ks ws (pc + 3) L []) : VC M E A nL Q kc ks ws pc L [.ref o] := fun H locs ls hP hD hS hl => W.objInit K.ex K.cd K.ow (K.ts _ hlk) (K.ts _ h1) (K.ts _ h2) rfl (by rw [K.ml]; exact hl.1) rfl d (Nat.le_trans hf K.frm) (Nat.le_trans hl0 K.loc) (k H locs ls hP hD hS hl)
theorem k_newP {ty : FieldType} {atype : ArrayType} {n : Int32} {N t0 : Nat} {a0 : vp_A} {cA0 : ClassId} (K : OKc M E A nL cc own base fr lo mc ms) (hw : Cond.arrayClass ty ∈ Gw) (hty : newarray.typeOf atype = ty) (d : decode cc pc = .ok (.newarray atype, 2)) (hn : ¬ n < 0) (hN : n.toNatClampNeg = N) (hb : N * componentBytes ty ≤ 536870912) (h1 : kc + 1 ≤ mc) (h2 : ks + N ≤ ms) (ht : (tysOf E)[t0]? = some (cA0, ty)) (hra : ∀ cA, va_RA M.2.2.2.2.1 cA ty ↔ M.2.2.2.2.1.vm.findClass ("[" ++ ty.toString) = some cA) (ha : vp_cell cA0 a0 = arrV cA0 N (fun _ => defaultValue ty))
    (k : ∀ q : Nat, VC M E A nL Q (kc + 1) (ks + N) (ws ++ [(q, .inl (cA0, a0))]) (pc + 2) L (.ref q :: st)) : VC M E A nL Q kc ks ws pc L (.int n :: st) := by
  intro H locs ls hP hD hS hl
  subst hty
  refine va_newaK K.ex K.cd (K.ts _ hw) rfl d rfl hn hN hb (Nat.le_trans h1 K.ce) (Nat.le_trans h2 K.sl) rfl fun H1 cA e1 z1 o1 hAr hNm => ?_
  have hcA : cA = cA0 := Option.some.inj (hNm.symm.trans ((hra cA0).mp (K.am.1.1.2 t0 _ ht).2))
  subst hcA
  have hk : ∀ (k : Nat) (x : Nat × va_E), ws[k]? = some x → H1[x.1]? = H[x.1]? := fun k x hx => o1 x.1 ((hP k x hx).lt)
  refine k H.size H1 locs ls ((hP.kept hk).app (fun k x hx => ?_)) (hD.push hP rfl (K.hA _ hS.1)) ⟨Nat.le_trans hS.1 (by omega), fun x h1 h2 => (o1 x (Nat.lt_of_lt_of_le h1 hS.1)).trans (hS.2.1 x h1 h2), hS.2.2⟩ hl
  have hz : k < 1 := (List.getElem?_eq_some_iff.mp hx).1
  rw [show k = 0 by omega] at hx
  cases hx
  show H1[H.size]? = some (vp_cell _ _)
  rw [ha]
  exact e1
theorem k_newL {n : Int32} {N : Nat} (K : OKc M E A nL cc own base fr lo mc ms) (hw : Cond.arrayClass .long ∈ Gw) (d : decode cc pc = .ok (.newarray .long, 2)) (hn : ¬ n < 0) (hN : n.toNatClampNeg = N) (hb : N * componentBytes .long ≤ 536870912) (h1 : kc + 1 ≤ mc) (h2 : ks + N ≤ ms) (k : ∀ q : Nat, VC M E A nL Q (kc + 1) (ks + N) (ws ++ [(q, zL E N)]) (pc + 2) L (.ref q :: st)) : VC M E A nL Q kc ks ws pc L (.int n :: st) :=
  k_newP (atype := .long) (t0 := 0) K hw rfl d hn hN hb h1 h2 rfl (fun _ => Iff.rfl) rfl k
theorem k_newI {n : Int32} {N : Nat} (K : OKc M E A nL cc own base fr lo mc ms) (hw : Cond.arrayClass .int ∈ Gw) (d : decode cc pc = .ok (.newarray .int, 2)) (hn : ¬ n < 0) (hN : n.toNatClampNeg = N) (hb : N * componentBytes .int ≤ 536870912) (h1 : kc + 1 ≤ mc) (h2 : ks + N ≤ ms) (k : ∀ q : Nat, VC M E A nL Q (kc + 1) (ks + N) (ws ++ [(q, zI E N)]) (pc + 2) L (.ref q :: st)) : VC M E A nL Q kc ks ws pc L (.int n :: st) :=
  k_newP (atype := .int) (t0 := 1) K hw rfl d hn hN hb h1 h2 rfl (fun _ => Iff.rfl) rfl k
theorem k_newZ {n : Int32} {N : Nat} (K : OKc M E A nL cc own base fr lo mc ms) (hw : Cond.arrayClass .boolean ∈ Gw) (d : decode cc pc = .ok (.newarray .boolean, 2)) (hn : ¬ n < 0) (hN : n.toNatClampNeg = N) (hb : N * componentBytes .boolean ≤ 536870912) (h1 : kc + 1 ≤ mc) (h2 : ks + N ≤ ms) (k : ∀ q : Nat, VC M E A nL Q (kc + 1) (ks + N) (ws ++ [(q, zZ E N)]) (pc + 2) L (.ref q :: st)) : VC M E A nL Q kc ks ws pc L (.int n :: st) :=
  k_newP (atype := .boolean) (t0 := 2) K hw rfl d hn hN hb h1 h2 rfl (fun _ => Iff.rfl) rfl k
/-- a final field of the object under construction, the first cell of the world -/
def FF (own : String) (index ci k : Nat) (ty : FieldType) : Prop := ∃ (T : u_T) (N : Nat) (ty0 : Nat → FieldType), vcl[ci]? = some (own, T, N) ∧ (∀ w ∈ u_ws own T N, w ∈ Gw) ∧ k < N ∧ (T k).1 = own ∧ Cond.fieldLink own index own (T k).2.1 (T k).2.2.1 ∈ Gw ∧ (∀ k, k < N → parseFieldDescriptor (T k).2.2.1 = some (ty0 k)) ∧ (∀ a, a < N → ∀ b, b < N → a ≠ b → (T a).2.1 ≠ (T b).2.1) ∧ (T k).2.2.2 = true ∧ parseFieldDescriptor (T k).2.2.1 = some ty
theorem k_putF {o index ci k0 q : Nat} {fs : List Value} {ty : FieldType} {rest : va_W} (K : OKc M E A nL cc own base fr lo mc ms) (f : FF own index ci k0 ty) (hr : ty.isReference = true) (d : decode cc pc = .ok (.putfield index, 3)) (hl0 : k0 < fs.length) (k : VC M E A nL Q kc ks ((o, .inr (ci, fs.set k0 (.ref q))) :: rest) (pc + 3) L st) : VC M E A nL Q kc ks ((o, .inr (ci, fs)) :: rest) pc L (.ref q :: .ref o :: st) := by
  intro H locs ls hP hD hS hl
  obtain ⟨T, N, ty0, hc, hin, hk, h1, hlk, hty, hnm, hfin, hd⟩ := f
  have hn : narrow ty (.ref q) = .ref q := by cases ty <;> rfl
  have hfit : fits ty (.ref q) = true := by cases ty <;> first | rfl | (simp [FieldType.isReference] at hr)
  exact va_putF (D := E.1) (A := A) (ws := (o, .inr (ci, fs)) :: rest) (ci := ci) (C := own) (T := T) (N := N) (ref := own) (ty := ty) K.ex K.cd K.ts hin ty0 hty hnm K.ow K.am.1.1 hP hD hS 0 rfl hc k0 hk (K.ts _ hlk) (by rw [h1]; exact fun _ h => h) hfin K.nm h1 hd hn hfit hl0 d (fun H1 locs1 hP1 hD1 hS1 => k H1 locs1 ls hP1 hD1 hS1 hl)
theorem k_putI {o index ci k0 : Nat} {v : Int32} {fs : List Value} {rest : va_W} (K : OKc M E A nL cc own base fr lo mc ms) (f : FW own index ci k0 .int) (d : decode cc pc = .ok (.putfield index, 3)) (hl0 : k0 < fs.length) (k : VC M E A nL Q kc ks ((o, .inr (ci, fs.set k0 (.int v))) :: rest) (pc + 3) L st) : VC M E A nL Q kc ks ((o, .inr (ci, fs)) :: rest) pc L (.int v :: .ref o :: st) := by
  intro H locs ls hP hD hS hl
  obtain ⟨C, T, N, ty0, hc, hin, hk, h1, hlk, hty, hnm, hfin, hd⟩ := f
  exact va_put (D := E.1) (A := A) (ws := (o, .inr (ci, fs)) :: rest) (ci := ci) (C := C) (T := T) (N := N) (ref := C) (ty := .int) K.ex K.cd K.ts hin ty0 hty hnm K.ow K.am.1.1 hP hD hS 0 rfl hc k0 hk (K.ts _ hlk) (by rw [h1]; exact fun _ h => h) hfin hd rfl rfl hl0 d (fun H1 locs1 hP1 hD1 hS1 => k H1 locs1 ls hP1 hD1 hS1 hl)
/-- new long[n][k] -/
theorem k_mna {index : Nat} {n k9 : Int32} {N' K' : Nat} (K : OKc M E A nL cc own base fr lo mc ms) (hcl : Cond.classLink own index "[[J" ∈ Gw) (hw : Cond.arrayClass .long ∈ Gw) (d : decode cc pc = .ok (.multianewarray index 2, 4)) (hn : ¬ n < 0) (hk : ¬ k9 < 0) (hN : n.toNatClampNeg = N') (hM : k9.toNatClampNeg = K') (hb1 : N' * 4 ≤ 536870912) (hb2 : K' * componentBytes .long ≤ 536870912) (hb3 : K' ≤ 536870912) (h1 : kc + (1 + N') ≤ mc) (h2 : ks + (N' + N' * K') ≤ ms)
    (k : ∀ (q : Nat) (r : Nat → Nat), VC M E A nL Q (kc + 1 + N') (ks + N' + N' * K') (ws ++ (q, .inl (E.2.1 3, N', .inr (.inr (.inr (.inr (fun i => some (r i))))))) :: (List.range N').map (fun i => (r i, zL E K'))) (pc + 4) L (.ref q :: st)) : VC M E A nL Q kc ks ws pc L (.int k9 :: .int n :: st) := by
  intro H locs ls hP hD hS hl
  have hcy : M.2.2.2.2.1.vm.findClass (FieldType.array .long).toString = some (E.2.1 0) := (K.am.1.1.2 0 _ rfl).2
  have hP0 : va_P E.1 vcl (ws ++ va_pl [] (fun _ => zL E 0)) H := by
    show va_P E.1 vcl (ws ++ []) H
    rw [List.append_nil]; exact hP
  have hD0 : va_D A (ws ++ va_pl [] (fun _ => zL E 0)) := by
    show va_D A (ws ++ [])
    rw [List.append_nil]; exact hD
  refine va_mna (X := ws) (L := []) (f := fun _ => zL E 0) (ty := .long) (cy := E.2.1 0) (z := (K', .inr (.inl (fun _ => 0)))) K.ex K.cd K.ow (K.ts _ hcl) K.am.2.2.2 (K.ts _ hw) hcy K.am.1.1 hP0 hD0 hS K.hA hn hk hN hM hb1 hb2 hb3 rfl rfl (Nat.le_trans h1 K.ce) (Nat.le_trans h2 K.sl) (fun c => ?_) d (fun q r cA H1 hinj _ hKn hP1 hD1 hS1 => ?_)
  · show ({ cls := c, slots := Array.replicate K' (defaultValue .long), vm := .none } : Cell) = _
    rw [arrV_new]; rfl
  · have hcA : cA = E.2.1 3 := by
      have a1 := (hKn.2 4 (cA, .array .long) rfl).2
      have a2 := (K.am.1.1.2 3 _ rfl).2
      exact Option.some.inj (a1.symm.trans a2)
    subst hcA
    have hpl : va_pl ([] ++ (List.range N').map r) (vr_up (fun _ => zL E 0) ((List.range N').map r) (.inl (E.2.1 0, K', .inr (.inl (fun _ => 0))))) = (List.range N').map (fun i => (r i, zL E K')) := by
      unfold va_pl
      rw [List.nil_append, List.map_map]
      apply List.map_congr_left
      intro i hi
      show (r i, vr_up _ _ _ (r i)) = _
      rw [vr_up_in (List.mem_map.mpr ⟨i, hi, rfl⟩)]
    rw [hpl, List.append_assoc] at hP1 hD1
    have hP1 : va_P E.1 vcl (ws ++ (q, .inl (E.2.1 3, N', .inr (.inr (.inr (.inr (fun i => if i < N' then some (r i) else none)))))) :: (List.range N').map (fun i => (r i, zL E K'))) H1 := hP1
    have hD1 : va_D A (ws ++ (q, .inl (E.2.1 3, N', .inr (.inr (.inr (.inr (fun i => if i < N' then some (r i) else none)))))) :: (List.range N').map (fun i => (r i, zL E K'))) := hD1
    have hcons : ∀ (a b : Nat × va_E) (l9 : va_W) (j : Nat), j ≠ ws.length → (ws ++ a :: l9)[j]? = (ws ++ b :: l9)[j]? := by
      intro a b l9 j hj
      by_cases hlt : j < ws.length
      · rw [List.getElem?_append_left hlt, List.getElem?_append_left hlt]
      · have hge : ws.length ≤ j := by omega
        rw [List.getElem?_append_right hge, List.getElem?_append_right hge]
        obtain ⟨m9, hm9⟩ : ∃ m9, j - ws.length = m9 + 1 := ⟨j - ws.length - 1, by omega⟩
        rw [hm9]
        rfl
    refine k q r H1 locs ls ?_ ?_ hS1 hl
    · intro j x hx
      by_cases hj : j = ws.length
      · subst hj
        rw [List.getElem?_append_right (Nat.le_refl _), Nat.sub_self] at hx
        cases hx
        have h9 := hP1 ws.length _ (by rw [List.getElem?_append_right (Nat.le_refl _), Nat.sub_self]; rfl)
        have h9' : H1[q]? = some (vp_cell (E.2.1 3) (N', .inr (.inr (.inr (.inr (fun i => if i < N' then some (r i) else none)))))) := h9
        show H1[q]? = some (vp_cell (E.2.1 3) (N', .inr (.inr (.inr (.inr (fun i => some (r i)))))))
        rw [h9']
        refine congrArg some ?_
        rw [vp_cell_q, vp_cell_q]
        exact arrV_cg (fun j hj => by rw [if_pos hj])
      · exact hP1 j x ((hcons _ _ _ j hj).trans hx)
    · have cv : ∀ (j : Nat) (x : Nat × va_E), (ws ++ (q, .inl (E.2.1 3, N', .inr (.inr (.inr (.inr (fun i => some (r i))))))) :: (List.range N').map (fun i => (r i, zL E K')))[j]? = some x → ∃ y, (ws ++ (q, .inl (E.2.1 3, N', .inr (.inr (.inr (.inr (fun i => if i < N' then some (r i) else none)))))) :: (List.range N').map (fun i => (r i, zL E K')))[j]? = some y ∧ y.1 = x.1 := by
        intro j x hx
        by_cases hj : j = ws.length
        · subst hj
          rw [List.getElem?_append_right (Nat.le_refl _), Nat.sub_self] at hx
          cases hx
          exact ⟨(q, .inl (E.2.1 3, N', .inr (.inr (.inr (.inr (fun i => if i < N' then some (r i) else none)))))), by rw [List.getElem?_append_right (Nat.le_refl _), Nat.sub_self]; rfl, rfl⟩
        · exact ⟨x, (hcons _ _ _ j hj).trans hx, rfl⟩
      refine ⟨fun i j x y hx hy hxy => ?_, fun j x hx => ?_⟩
      · obtain ⟨x', a1, a2⟩ := cv i x hx
        obtain ⟨y', b1, b2⟩ := cv j y hy
        exact hD1.1 i j x' y' a1 b1 (a2.trans (hxy.trans b2.symm))
      · obtain ⟨x', a1, a2⟩ := cv j x hx
        rw [← a2]
        exact hD1.2 j x' a1
/-- an object's making ends: the cells that there are then -/
theorem k_ret {Qc : Array Value → State → Outcome → State → Prop} (K : OKc M E A nL cc own base fr lo mc ms) (d : decode cc pc = .ok (.return_, 1)) (h1 : kc ≤ mc) (h2 : ks ≤ ms) (hq : ∀ (H : Heap) (t : State), t.heap = H → va_P E.1 vcl ws H → va_D A ws → va_F A M.2.2.2.2.1 t → Qc M.2.2.2.2.2.2.1 M.2.2.2.2.1 (.returned none) t) : VC M E A nL (MQ M.2.2.2.2.2.2.2.1 Qc M.2.2.2.2.2.2.1 M.2.2.2.2.1 mc ms A) kc ks ws pc L [] :=
  fun H locs ls hP hD hS hl => W.widen h1 h2 (W.vret K.ex K.cd K.rty (fun t ht _ => hq H t ht hP hD (hS.F ht)) hS.2.2 d K.lk)
end VCR
def aO (o sz : Nat) : Nat → Prop := fun q => q = o ∨ sz ≤ q
/-- a constructor's contract: out of the object's blank cell the cells W that post tells, all new but the object's own -/
def KCtr (l : Launch) (y : MethodName) (cc : ByteArray) (nL fr lo mc ms : Nat) (E : Ev) (base : Nat) (ci : Nat) (fs0 : List Value) (post : Nat → va_W → Prop) : Prop :=
  ∀ o sz : Nat, base ≤ o → Met l y (.code y cc nL none :: Gw) { frames := fr, cells := mc, slots := ms, locals := lo } (va_Pc [.ref o] (fun U => U.heap.size = sz ∧ base ≤ sz ∧ va_P E.1 vcl [(o, .inr (ci, fs0))] U.heap ∧ AmbK E base U)) (fun _ st oc t => (∃ ws : va_W, oc = .returned none ∧ post o ws ∧ va_P E.1 vcl ws t.heap ∧ va_D (aO o sz) ws) ∧ va_F (aO o sz) st t) mc ms (aO o sz)
theorem ofK {l : Launch} {y : MethodName} {cc : ByteArray} {nL fr lo mc ms : Nat} {E : Ev} {base ci : Nat} {fs0 : List Value} {post : Nat → va_W → Prop} {own : String} {L : List (Option Value)} (n : Nat) (hp : plainName y.cls = true) (hn : y.name = "<init>") (ho : y.cls = own) (hlen : 1 ≤ nL) (hL : ∀ o, ent [.ref o] ++ List.replicate n none = some (.ref o) :: L)
    (body : ∀ (M : MT) (o : Nat), OKc M E (aO o M.2.2.2.2.1.heap.size) nL cc own base fr lo mc ms → VC M E (aO o M.2.2.2.2.1.heap.size) nL (MQ M.2.2.2.2.2.2.2.1 (fun _ st oc t => (∃ ws : va_W, oc = .returned none ∧ post o ws ∧ va_P E.1 vcl ws t.heap ∧ va_D (aO o M.2.2.2.2.1.heap.size) ws) ∧ va_F (aO o M.2.2.2.2.1.heap.size) st t) M.2.2.2.2.2.2.1 M.2.2.2.2.1 mc ms (aO o M.2.2.2.2.1.heap.size)) 0 0 [(o, .inr (ci, fs0))] 0 (some (.ref o) :: L) []) : KCtr l y cc nL fr lo mc ms E base ci fs0 post := by
  intro o sz hbo
  refine Met.ofW (cc := cc) (maxL := nL) (ret := none) hp rfl ?_
  intro p e s m args below meth c s₁ B hml hv
  obtain ⟨rfl, hsz, hb, hP, hA⟩ := hv
  subst hsz
  have hts : ∀ w ∈ Gw, w.before ([.ref o] : List Value).toArray s = true := fun w hw => atoms_spec (ws := Cond.code y cc nL none :: Gw) B.pre w (List.mem_cons_of_mem _ hw)
  have hk := body (p, l, e, { frames := fr, cells := mc, slots := ms, locals := lo }, s, m, ([.ref o] : List Value).toArray, below, meth, c) o ⟨B.exec, B.bytes, hml, B.notSynchronized, ((name_of_methodNamed B.named B.method).1.trans hn), by rw [← ho]; exact findClass_of_methodNamed B.named, hts, B.returns, hA, fun q h => Or.inr h, hb, fun q h => h.elim (fun e => by rw [e]; exact hbo) (fun e => Nat.le_trans hb e), Nat.le_refl _, Nat.le_refl _, Nat.le_refl _, Nat.le_refl _⟩
  rw [lg_entry_eq]
  refine hk s.heap [] _ hP ?_ va_S.rf ?_
  · refine ⟨fun i j x y hx hy _ => ?_, fun k x hx => ?_⟩
    · have h1 : i < 1 := (List.getElem?_eq_some_iff.mp hx).1
      have h2 : j < 1 := (List.getElem?_eq_some_iff.mp hy).1
      omega
    · have h1 : k < 1 := (List.getElem?_eq_some_iff.mp hx).1
      rw [show k = 0 by omega] at hx
      cases hx
      exact Or.inl rfl
  · have hl := lv_entry [.ref o] (n := nL) hlen
    unfold lvL
    rw [← hL o, asc_ent]
    exact hl
