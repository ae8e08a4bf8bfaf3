/-! over any world: fields, the images' row, new objects, calls -/
def OKq (M : MT) (E : Ev) (A : Nat → Prop) (nL : Nat) (cc : ByteArray) (own : String) (rt : Option FieldType) (base fr lo mc ms : Nat) : Prop :=
  OKz M cc own nL ∧ M.2.2.2.2.2.2.2.2.1.sig.returnType = rt ∧ AmbK E base M.2.2.2.2.1 ∧ (∀ q : Nat, M.2.2.2.2.1.heap.size ≤ q → A q) ∧ base ≤ M.2.2.2.2.1.heap.size ∧ (∀ q : Nat, A q → base ≤ q) ∧ fr ≤ M.2.2.2.1.frames ∧ lo ≤ M.2.2.2.1.locals ∧ mc ≤ M.2.2.2.1.cells ∧ ms ≤ M.2.2.2.1.slots ∧ M.2.1.stackTraces = false
theorem sgP {D : va_G} {cl : List vw_C} {x : Nat × va_E} {H : Heap} (h : va_at D cl x H) : va_P D cl [x] H := by
  intro k q hk
  have h1 : k < 1 := (List.getElem?_eq_some_iff.mp hk).1
  rw [show k = 0 by omega] at hk
  cases hk
  exact h
section ZQ
variable {M : MT} {E : Ev} {A : Nat → Prop} {nL kc ks : Nat} {Q : State → Prop} {Z Z1 : Heap → Prop} {cc : ByteArray} {own : String} {rt : Option FieldType} {base fr lo mc ms pc : Nat} {L : List (Option Value)} {st : List Value}
theorem OKq.z (K : OKq M E A nL cc own rt base fr lo mc ms) : OKz M cc own nL := K.1
theorem OKq.rty (K : OKq M E A nL cc own rt base fr lo mc ms) : M.2.2.2.2.2.2.2.2.1.sig.returnType = rt := K.2.1
theorem OKq.am (K : OKq M E A nL cc own rt base fr lo mc ms) : AmbK E base M.2.2.2.2.1 := K.2.2.1
theorem OKq.hA (K : OKq M E A nL cc own rt base fr lo mc ms) : ∀ q : Nat, M.2.2.2.2.1.heap.size ≤ q → A q := K.2.2.2.1
theorem OKq.bs (K : OKq M E A nL cc own rt base fr lo mc ms) : base ≤ M.2.2.2.2.1.heap.size := K.2.2.2.2.1
theorem OKq.Ab (K : OKq M E A nL cc own rt base fr lo mc ms) : ∀ q : Nat, A q → base ≤ q := K.2.2.2.2.2.1
theorem OKq.frm (K : OKq M E A nL cc own rt base fr lo mc ms) : fr ≤ M.2.2.2.1.frames := K.2.2.2.2.2.2.1
theorem OKq.loc (K : OKq M E A nL cc own rt base fr lo mc ms) : lo ≤ M.2.2.2.1.locals := K.2.2.2.2.2.2.2.1
theorem OKq.ce (K : OKq M E A nL cc own rt base fr lo mc ms) : mc ≤ M.2.2.2.1.cells := K.2.2.2.2.2.2.2.2.1
theorem OKq.sl (K : OKq M E A nL cc own rt base fr lo mc ms) : ms ≤ M.2.2.2.1.slots := K.2.2.2.2.2.2.2.2.2.1
theorem OKq.nt (K : OKq M E A nL cc own rt base fr lo mc ms) : M.2.1.stackTraces = false := K.2.2.2.2.2.2.2.2.2.2
theorem z_get {o ci k index : Nat} {fs : List Value} {v : Value} (K : OKq M E A nL cc own rt base fr lo mc ms) (f : FL own index ci k) (d : decode cc pc = .ok (.getfield index, 3)) (hz : ∀ H, Z H → va_at E.1 vcl (o, .inr (ci, fs)) H) (hv : fs[k]? = some v) (kk : VZ M A nL kc ks Q Z (pc + 3) L (v :: st)) : VZ M A nL kc ks Q Z pc L (.ref o :: st) := by
  intro H locs ls hP hS hl
  obtain ⟨C, T, N, hc, hin, hk, h1, hlk⟩ := f
  exact va_get (D := E.1) (ws := [(o, .inr (ci, fs))]) (ci := ci) (C := C) (T := T) (N := N) (ref := C) K.z.ex K.z.cd K.z.ts hin K.z.ow K.am.1.1 (sgP (hz H hP)) 0 rfl hc k hk (K.z.ts _ hlk) (by rw [h1]; exact fun _ h => h) hv d (kk H locs ls hP hS hl)
theorem z_aal {a n j : Nat} {x : Int32} {f : Nat → Option Nat} (K : OKq M E A nL cc own rt base fr lo mc ms) (d : decode cc pc = .ok (.aaload, 1)) (hz : ∀ H, Z H → va_at E.1 vcl (a, .inl (E.2.1 4, n, .inr (.inr (.inr (.inr f))))) H) (hx : ix x n = some j) (kk : VZ M A nL kc ks Q Z (pc + 1) L (va_rf (f j) :: st)) : VZ M A nL kc ks Q Z pc L (.int x :: .ref a :: st) := by
  intro H locs ls hP hS hl
  exact va_aldq (D := E.1) (ws := [(a, .inl (E.2.1 4, n, .inr (.inr (.inr (.inr f)))))]) (C := RX1) K.z.ex K.z.cd K.am.2.1 (sgP (hz H hP)) 0 0 rfl rfl (ix_in hx) d (by rw [ix_eq hx]; exact kk H locs ls hP hS hl)
theorem z_aast {a n v j : Nat} {x : Int32} {vs : List Value} {f : Nat → Option Nat} (K : OKq M E A nL cc own rt base fr lo mc ms) (d : decode cc pc = .ok (.aastore, 1)) (ha : ∀ H, Z H → va_at E.1 vcl (a, .inl (E.2.1 4, n, .inr (.inr (.inr (.inr f))))) H) (hv : ∀ H, Z H → va_at E.1 vcl (v, .inr (1, vs)) H) (hx : ix x n = some j) (hAa : A a)
    (hz1 : ∀ H H1, Z H → va_at E.1 vcl (a, .inl (E.2.1 4, n, .inr (.inr (.inr (.inr (va_up f j (some v))))))) H1 → (∀ q : Nat, q ≠ a → H1[q]? = H[q]?) → H1.size = H.size → Z1 H1) (kk : VZ M A nL kc ks Q Z1 (pc + 1) L st) : VZ M A nL kc ks Q Z pc L (.ref v :: .int x :: .ref a :: st) := by
  intro H locs ls hP hS hl
  have hin := ix_in hx
  have hlt : x.toNatClampNeg < n := by rw [ix_eq hx]; exact ix_lt hx
  have h0 : ¬ x < 0 := fun q => hin (Or.inl q)
  obtain ⟨r', hr', cellV, g1, g2, g3, -⟩ := hv H hP
  have hcls := (K.am.1.1.1 1 _ rfl).2
  obtain ⟨kA, comp, k1, k2, k3, -⟩ := (K.am.2.1.2 0 _ rfl).2
  have hcomp : comp = E.1.1 1 := Option.some.inj (k3.symm.trans hcls.1)
  subst hcomp
  obtain ⟨kC, hkC, -⟩ := hcls.2
  refine W.aast K.z.ex K.z.cd (ha H hP) (fun q h => by cases h) (fun h => by cases h) k1 k2 rfl hkC ⟨h0, by show _ < (arrV _ _ _).slots.size; rw [arrV_size]; exact hlt⟩ g1 (fun q h => by rw [g3] at h; cases h) (by rw [g2]; exact hkC) (by rw [g2]; exact va_assign hcls) rfl rfl d fun H1 e z oq => ?_
  refine kk H1 _ ls (hz1 H H1 hP ?_ oq z) (hS.put z oq hAa) hl
  show H1[a]? = some (vp_cell _ _)
  rw [e]
  rw [vp_cell_q, vp_cell_q, arrV_store, ix_eq hx]
  congr 2
  funext q
  by_cases hq : q = j
  · subst hq
    simp [updV, va_up, va_rf]
  · simp [updV, va_up, hq]
theorem z_new {index ci N : Nat} {C : String} {T : u_T} {ty : Nat → FieldType} {fs : List Value} {Zn : Nat → Heap → Prop} (K : OKq M E A nL cc own rt base fr lo mc ms) (hc : vcl[ci]? = some (C, T, N)) (hin : ∀ w ∈ u_ws C T N, w ∈ Gw) (hty : ∀ k, k < N → parseFieldDescriptor (T k).2.2.1 = some (ty k)) (hcl : Cond.classLink own index C ∈ Gw) (hins : Cond.instantiable C N ∈ Gw) (hini : Cond.initialized C ∈ Gw) (hfs : ∀ j, j < N → defaultValue (ty j) = vp_V fs j) (d : decode cc pc = .ok (.new index, 3)) (h1 : kc + 1 ≤ mc) (h2 : ks + N ≤ ms)
    (hz1 : ∀ H H1, Z H → va_at E.1 vcl (H.size, .inr (ci, fs)) H1 → (∀ q : Nat, q < H.size → H1[q]? = H[q]?) → H1.size = H.size + 1 → M.2.2.2.2.1.heap.size ≤ H.size → Zn H.size H1)
    (k : ∀ q : Nat, A q → VZ M A nL (kc + 1) (ks + N) Q (Zn q) (pc + 3) L (.ref q :: st)) : VZ M A nL kc ks Q Z pc L st := by
  intro H locs ls hP hS hl
  have hKn := K.am.1.1.1 ci _ hc
  refine W.newcK K.z.ex K.z.cd K.z.ow (K.z.ts _ hcl) (K.z.ts _ hins) (K.z.ts _ hini) rfl d (Nat.le_trans h1 K.ce) (Nat.le_trans h2 K.sl) hKn.2.1 rfl fun H1 kC hkC e1 z1 o1 => ?_
  refine k H.size (K.hA _ hS.1) H1 locs ls (hz1 H H1 hP ?_ o1 z1 hS.1) ⟨Nat.le_trans hS.1 (by omega), fun x h1 h2 => (o1 x (Nat.lt_of_lt_of_le h1 hS.1)).trans (hS.2.1 x h1 h2), hS.2.2⟩ hl
  exact ⟨_, hc, (u_born ty K.z.ts hin hKn hkC e1 hty).to hfs⟩
/-- a nest mate's constructor -/
theorem z_init {y : MethodName} {cc' : ByteArray} {host : String} {nL' fr' lo' mc' ms' index ci q : Nat} {fs : List Value} {post : Nat → va_W → Prop} {Zn : va_W → Heap → Prop} (K : OKq M E A nL cc own rt base fr lo mc ms) (cv : CalI y cc' nL') (hlk : (own, index, y, host) ∈ gNst) (hM : KCtr M.2.1 y cc' nL' fr' lo' mc' ms' E base ci fs post) (hAq0 : A q) (hrm : (st.map fun v => v.category).sum ≤ 8) (hfr : fr' + 1 ≤ fr) (hlo : 8 + (nL' + 11) + lo' ≤ lo) (h1 : kc + mc' ≤ mc) (h2 : ks + ms' ≤ ms) (d : decode cc pc = .ok (.invokespecial index, 3))
    (hz : ∀ H, Z H → va_at E.1 vcl (q, .inr (ci, fs)) H)
    (hz1 : ∀ H H1 w, Z H → post q w → va_P E.1 vcl w H1 → va_D (aO q H.size) w → (∀ x : Nat, x < H.size → ¬ aO q H.size x → H1[x]? = H[x]?) → H.size ≤ H1.size → M.2.2.2.2.1.heap.size ≤ H.size → Zn w H1)
    (k : ∀ w : va_W, post q w → VZ M A nL (kc + mc') (ks + ms') Q (Zn w) (pc + 3) L st) : VZ M A nL kc ks Q Z pc L (.ref q :: st) := by
  intro H locs ls hP hS hl
  obtain ⟨c1, c2, c4, c5, c6, c7, c8⟩ := cv
  have hPq : va_P E.1 vcl [(q, .inr (ci, fs))] H := sgP (hz H hP)
  have hAq : ∀ x, aO q H.size x → A x := fun x h => h.elim (fun e => by rw [e]; exact hAq0) (fun e => K.hA _ (Nat.le_trans hS.1 e))
  refine va_callv (S := va_W) (post := fun w => post q w) (B := fun w t => va_P E.1 vcl w t.heap ∧ va_D (aO q H.size) w) (A1 := aO q H.size) (free := aO q H.size) (a := ([.ref q] : List Value).toArray) (mc := mc') (ms := ms') (rest := st) ?_ hS (fun x _ h => hAq x h) hAq (fun w t H1 locs1 ht hvm hw hB hz9 hk1 hS1 => ?_)
  · have hr := va_runIN (p := M.1) (e := M.2.2.1) (R := M.2.2.2.1) (below := M.2.2.2.2.2.2.2.1) (meth := M.2.2.2.2.2.2.2.2.1) (H := H) (locs := locs) (cells := kc) (slots := ks) (g := F0 M.2.2.2.2.2.1 pc ls (.ref q :: st)) (Ts := Cond.code y cc' nL' none :: Gw) (bytes := cc') (maxL := nL') (n := 0) (own := own) (host := host) (index := index) (As := []) (b := q) (rest := st) ⟨K.z.ex, K.z.cd, K.z.ml, K.z.ow, fun w hw => (List.mem_cons.mp hw).elim (fun z => by rw [z]; exact K.z.ts _ c1) (K.z.ts w)⟩ (hM q H.size (K.Ab _ hAq0)) ⟨va_cnB 0 (fun w hw => (List.mem_cons.mp hw).elim (fun z => by rw [z]; exact K.z.ts _ c1) (K.z.ts w)) (good_cg (c0 := Cond.code y cc' nL' none) c1) rfl rfl rfl (K.am.1.2.2.2.2.1 _ hlk) (K.z.ts _ c4) ⟨c5, c6, c7⟩ ⟨Nat.le_trans hfr K.frm, Nat.le_trans hlo K.loc⟩, c8, K.z.ts _ c2⟩ ⟨fun a U g mk z => ⟨z.1, z.2.1, z.2.2.1, z.2.2.2.1, AmbK.same z.2.2.2.2 rfl rfl⟩, fun U hU hW => ⟨rfl, by rw [hU], Nat.le_trans K.bs hS.1, by rw [hU]; exact hPq, AmbK.go K.am hW (fun a h1 h2 => by rw [hU]; exact hS.2.1 a h1 (fun z => h2 (K.Ab _ z)))⟩⟩ rfl rfl hl.1 rfl (lv_room hrm) d ⟨Nat.le_trans h1 K.ce, Nat.le_trans h2 K.sl⟩
    intro T hT Xs
    obtain ⟨v, st₀, t, T', L2, a1, a2, a3, a4, a5, ⟨⟨w, b1, b2, b3, b4⟩, b5⟩, a7⟩ := hr T hT Xs
    exact ⟨v, st₀, t, T', L2, a1, a2, a3, a4, a5, ⟨⟨w, b1, b2, b3, b4⟩, b5⟩, a7⟩
  · obtain ⟨hP1, hD1⟩ := hB
    rw [ht] at hP1
    exact k w hw H1 locs1 ls (hz1 H H1 w hP hw hP1 hD1 hk1 hz9 hS.1) hS1 hl
/-- behind a call over a part of the world that came back -/
theorem z_run {Y' : Ly} {ad' : Nat → Nat} {τ1 : St} {H : Heap} {locs : List Loc} {ls : Array Slot} {st0 rest : List Value} {v : Option Value} {a : Array Value} (hS : va_S A M.2.2.2.2.1.heap H locs) (hl : lvL ls nL L) (hA : ∀ q, Ax Y' (eT E ad') H.size q → A q)
    (hr : vx_Run M.1 M.2.1 M.2.2.1 M.2.2.2.1 M.2.2.2.2.1 M.2.2.2.2.2.1 M.2.2.2.2.2.2.1 M.2.2.2.2.2.2.2.1 M.2.2.2.2.2.2.2.2.1 M.2.2.2.2.2.2.2.2.2 H locs kc ks 0 0 (F0 M.2.2.2.2.2.1 pc ls st0) rest (qC Y' (eT E ad') τ1 (.ok v) H.size a) (qX Y' (eT E ad') τ1 (.ok v) H.size) (Ax Y' (eT E ad') H.size))
    (hz1 : ∀ H1, va_P E.1 vcl (wsOf Y' (eT E ad') τ1) H1 → (∀ q : Nat, q < H.size → ¬ Ax Y' (eT E ad') H.size q → H1[q]? = H[q]?) → H.size ≤ H1.size → Z1 H1)
    (kv : VZ M A nL kc ks Q Z1 (pc + 3) L (v.toList ++ rest)) : W M.1 M.2.1 M.2.2.1 M.2.2.2.1 M.2.2.2.2.1 M.2.2.2.2.2.1 M.2.2.2.2.2.2.1 M.2.2.2.2.2.2.2.1 M.2.2.2.2.2.2.2.2.1 M.2.2.2.2.2.2.2.2.2 H locs kc ks Q (F0 M.2.2.2.2.2.1 pc ls st0) := by
  intro T hT Xs
  rcases hr T hT Xs with ⟨v1, st₀, t, T', L2, h0, X', hL, e1, e2, ⟨⟨v9, hv, ho, hp⟩, hF⟩, stp⟩ | ⟨q, st₀, t, T', L2, En, ce, h0, X', hL, e1, e2, ⟨hx, hp, hF⟩, hce, hcv, hcl, stp⟩
  · cases ho
    cases hv
    obtain ⟨k1, k2, k3⟩ := vx_keep h0 e1 hS (fun q _ h => hA q h) hA hL hF
    obtain ⟨t2, a1, b1⟩ := kv T'.heap (locs ++ L2) ls (hz1 T'.heap (by rw [e1]; exact hp) k2 k1) k3 hl T' rfl X'
    exact ⟨t2, stp t2 a1, b1⟩
  · cases hx
theorem z_callV {Y' : Ly} {ad' : Nat → Nat} {y : MethodName} {cc' : ByteArray} {nL' fr' lo' n index i ci Nn : Nat} {rt' : Option FieldType} {T : u_T} {As rest st0 : List Value} {v : Option Value} {τ τ1 : St} (K : OKq M E A nL cc own rt base fr lo mc ms) (cv : CalV y cc' nL' rt' n) (hlk : Cond.methodLink own index y ∈ Gw) (hi : i < Y'.1) (hy : Y'.2.1 i = (3, ci)) (hc : vcl[ci]? = some (y.cls, T, Nn))
    (hM : Ctr M.2.1 y cc' nL' rt' fr' lo' Y' (eT E ad') base (.ref (ad' i) :: As) τ (.ok v) τ1) (hn : As.length = n) (hst : st0 = As.reverse ++ .ref (ad' i) :: rest) (hrm : (rest.map fun v => v.category).sum ≤ 8) (hfr : fr' + 1 ≤ fr) (hlo : 8 + (nL' + 11) + lo' ≤ lo) (h1 : kc ≤ mc) (h2 : ks ≤ ms) (d : decode cc pc = .ok (.invokevirtual index, 3))
    (hz : ∀ H, Z H → va_P E.1 vcl (wsOf Y' (eT E ad') τ) H) (hA : ∀ i, i < Y'.1 → A (ad' i))
    (hz1 : ∀ H H1, Z H → va_P E.1 vcl (wsOf Y' (eT E ad') τ1) H1 → (∀ q : Nat, q < H.size → ¬ Ax Y' (eT E ad') H.size q → H1[q]? = H[q]?) → H.size ≤ H1.size → Z1 H1)
    (kv : VZ M A nL kc ks Q Z1 (pc + 3) L (v.toList ++ rest)) : VZ M A nL kc ks Q Z pc L st0 := by
  intro H locs ls hP hS hl
  obtain ⟨c1, c2, c3, c4, c5, c6, c7⟩ := cv
  have hPC := hz H hP
  refine z_run (a := (Value.ref (ad' i) :: As).toArray) hS hl (fun q h => h.elim (fun ⟨i, a1, a2⟩ => by rw [← a2]; exact hA i a1) (fun e => K.hA _ (Nat.le_trans hS.1 e))) ?_ (fun H1 => hz1 H H1 hP) kv
  refine vx_runV (Ts := Cond.code y cc' nL' rt' :: Gw) (bytes := cc') (maxL := nL') (ret := rt') (n := n) (C := y.cls) (own := own) (index := index) (As := As) (b := ad' i) ⟨K.z.ex, K.z.cd, K.z.ml, K.z.ow, fun w hw => (List.mem_cons.mp hw).elim (fun q => by rw [q]; exact K.z.ts _ c1) (K.z.ts w)⟩ (hM H.size) ⟨callB_of n (fun w hw => (List.mem_cons.mp hw).elim (fun q => by rw [q]; exact K.z.ts _ c1) (K.z.ts w)) (good_cg (c0 := Cond.code y cc' nL' rt') c1) rfl rfl rfl (K.z.ts _ c4) (K.z.ts _ hlk) ⟨c5, c6, c7⟩ ⟨Nat.le_trans hfr K.frm, Nat.le_trans hlo K.loc⟩, K.z.ts _ c2, K.z.ts _ c3⟩ ⟨fun a U g mk q => ⟨q.1, q.2.1, q.2.2.1, q.2.2.2.1, Amb.same q.2.2.2.2 rfl rfl⟩, ?_, fun U hU hW => ⟨rfl, by rw [hU], Nat.le_trans K.bs hS.1, by rw [hU]; exact hPC, Amb.go K.am.1 hW (fun a h1 h2 => ?_)⟩⟩ rfl hn hl.1 hst (lv_room hrm) d ⟨Nat.le_trans h1 K.ce, Nat.le_trans h2 K.sl⟩
  · exact va_recv (q := (y.cls, T, Nn)) (q0 := i) (ci := ci) (fs := fvs (eT E ad') τ i 0 (Y'.2.2.1 i)) (a := ad' i) K.am.1.1 hPC hc (by rw [ws_get hi, cell_O hy])
  · rw [hU]
    exact hS.2.1 a h1 (fun q => h2 (K.Ab _ q))
theorem z_callS {Y' : Ly} {ad' : Nat → Nat} {y : MethodName} {cc' : ByteArray} {nL' fr' lo' n index : Nat} {rt' : Option FieldType} {As rest st0 : List Value} {v : Option Value} {τ τ1 : St} (K : OKq M E A nL cc own rt base fr lo mc ms) (cv : CalS y cc' nL' rt' n) (hlk : Cond.methodLink own index y ∈ Gw)
    (hM : Ctr M.2.1 y cc' nL' rt' fr' lo' Y' (eT E ad') base As τ (.ok v) τ1) (hn : As.length = n) (hst : st0 = As.reverse ++ rest) (hrm : (rest.map fun v => v.category).sum ≤ 8) (hfr : fr' + 1 ≤ fr) (hlo : 8 + (nL' + 11) + lo' ≤ lo) (h1 : kc ≤ mc) (h2 : ks ≤ ms) (d : decode cc pc = .ok (.invokestatic index, 3))
    (hz : ∀ H, Z H → va_P E.1 vcl (wsOf Y' (eT E ad') τ) H) (hA : ∀ i, i < Y'.1 → A (ad' i))
    (hz1 : ∀ H H1, Z H → va_P E.1 vcl (wsOf Y' (eT E ad') τ1) H1 → (∀ q : Nat, q < H.size → ¬ Ax Y' (eT E ad') H.size q → H1[q]? = H[q]?) → H.size ≤ H1.size → Z1 H1)
    (kv : VZ M A nL kc ks Q Z1 (pc + 3) L (v.toList ++ rest)) : VZ M A nL kc ks Q Z pc L st0 := by
  intro H locs ls hP hS hl
  obtain ⟨c1, c2, c4, c5, c6, c7⟩ := cv
  have hPC := hz H hP
  refine z_run (a := As.toArray) hS hl (fun q h => h.elim (fun ⟨i, a1, a2⟩ => by rw [← a2]; exact hA i a1) (fun e => K.hA _ (Nat.le_trans hS.1 e))) ?_ (fun H1 => hz1 H H1 hP) kv
  refine vx_runS (Ts := Cond.code y cc' nL' rt' :: Gw) (bytes := cc') (maxL := nL') (ret := rt') (n := n) (own := own) (index := index) (As := As) ⟨K.z.ex, K.z.cd, K.z.ml, K.z.ow, fun w hw => (List.mem_cons.mp hw).elim (fun q => by rw [q]; exact K.z.ts _ c1) (K.z.ts w)⟩ (hM H.size) ⟨callB_of n (fun w hw => (List.mem_cons.mp hw).elim (fun q => by rw [q]; exact K.z.ts _ c1) (K.z.ts w)) (good_cg (c0 := Cond.code y cc' nL' rt') c1) rfl rfl rfl (K.z.ts _ c4) (K.z.ts _ hlk) ⟨c5, c6, c7⟩ ⟨Nat.le_trans hfr K.frm, Nat.le_trans hlo K.loc⟩, K.z.ts _ c2⟩ ⟨fun a U g mk q => ⟨q.1, q.2.1, q.2.2.1, q.2.2.2.1, Amb.same q.2.2.2.2 rfl rfl⟩, fun U hU hW => ⟨rfl, by rw [hU], Nat.le_trans K.bs hS.1, by rw [hU]; exact hPC, Amb.go K.am.1 hW (fun a h1 h2 => ?_)⟩⟩ rfl hn hl.1 hst (lv_room hrm) d ⟨Nat.le_trans h1 K.ce, Nat.le_trans h2 K.sl⟩
  rw [hU]
  exact hS.2.1 a h1 (fun q => h2 (K.Ab _ q))
end ZQ
