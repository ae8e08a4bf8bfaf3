/-! the law's start: rows -/
theorem kc_RX3 : CalI yX3_init cX3_init 1 := ⟨gm1 22 (by decide +kernel) rfl, gm1 21 (by decide +kernel) rfl, gm1 1 (by decide +kernel) rfl, by decide +kernel, by decide +kernel, by decide +kernel, rfl⟩
theorem ki_RX3 : Cond.instantiable RX3 7 ∈ Gw := gm1 19 (by decide +kernel) rfl
theorem kz_RX3 : Cond.initialized RX3 ∈ Gw := gm1 1 (by decide +kernel) rfl
theorem kn_LX3 : Cond.classLink RL 8 RX3 ∈ Gw := gm1 18 (by decide +kernel) rfl
theorem kc_RX4 : CalI yX4_init cX4_init 1 := ⟨gm4 230 (by decide +kernel) rfl, gm4 229 (by decide +kernel) rfl, gm1 5 (by decide +kernel) rfl, by decide +kernel, by decide +kernel, by decide +kernel, rfl⟩
theorem ki_RX4 : Cond.instantiable RX4 26 ∈ Gw := gm4 227 (by decide +kernel) rfl
theorem kz_RX4 : Cond.initialized RX4 ∈ Gw := gm1 5 (by decide +kernel) rfl
theorem kn_LX4 : Cond.classLink RL 204 RX4 ∈ Gw := gm4 226 (by decide +kernel) rfl
theorem str0 {args : Array Value} {s : State} {own tx : String} {k : Nat} (h : (Cond.stringRef own k tx).before args s = true) : ∃ a, vk_R own k tx a s := by
  cases hc : s.vm.findClass own with
  | none => simp [Cond.before, Cond.holds, Cond.value, hc] at h
  | some cur =>
    obtain ⟨_, _, _, a, _, _, _, _, _, h9⟩ := Cond.stringRef_spec hc h
    exact ⟨a, vk_R.of h h9⟩
theorem amb0 {s : State} {args : Array Value} (hts : ∀ w ∈ lw_tbl, w.before args s = true) (hgv : (Jvm.Cond.and given_1 narrow_1).before args s = true) : ∃ (G : va_G) (Ac : Nat → ClassId), ∀ ad : Nat → Nat, AmbK (G, Ac, ad) s.heap.size s := by
  obtain ⟨c0, i0, k0⟩ := u_known (C := RX0) (T := TX0) (N := 5) (n := 5) hts tl_u0 (hts (.instantiable RX0 5) (by decide +kernel))
  obtain ⟨c1, i1, k1⟩ := u_known (C := RX1) (T := TX1) (N := 5) (n := 5) hts tl_u1 (hts (.instantiable RX1 5) (by decide +kernel))
  obtain ⟨c2, i2, k2⟩ := u_known (C := RX2) (T := TX2) (N := 1) (n := 1) hts tl_u2 (hts (.instantiable RX2 1) (by decide +kernel))
  obtain ⟨c3, i3, k3⟩ := u_known (C := RX3) (T := TX3) (N := 7) (n := 7) hts tl_u3 (hts (.instantiable RX3 7) (by decide +kernel))
  obtain ⟨c4, i4, k4⟩ := u_known (C := RX4) (T := TX4) (N := 26) (n := 26) hts tl_u4 (hts (.instantiable RX4 26) (by decide +kernel))
  obtain ⟨a0, a01, a02⟩ := arK (hts (.arrayClass .long) (by decide +kernel)) (fun C h => by cases h)
  obtain ⟨a1, a11, a12⟩ := arK (hts (.arrayClass .int) (by decide +kernel)) (fun C h => by cases h)
  obtain ⟨a2, a21, a22⟩ := arK (hts (.arrayClass .boolean) (by decide +kernel)) (fun C h => by cases h)
  have hoA : (Cond.arrayOver (.array .long)).before args s = true := hts _ (by decide +kernel)
  obtain ⟨a3, a31, a32⟩ := arKA hoA
  have hoO : (Cond.arrayOver (.object RX1)).before args s = true := hts _ (by decide +kernel)
  obtain ⟨a4, a41, a42⟩ := arKO hoO
  have hs := flat_of_before _ hgv
  have hz1 := vx_Zqof (A := fun q => s.heap.size ≤ q) (hts (.laysStatic Bundle.tN "UNASSIGNED_STACK" Bundle.steD) (by decide +kernel)) (hts (.initialized Bundle.tN) (by decide +kernel)) (hs (.isRef (.static Bundle.tN "UNASSIGNED_STACK" Bundle.steD)) (by decide +kernel)) (fun a h1 h2 => absurd h1 (Nat.not_lt.mpr h2))
  have hz2 := vx_Zqof (A := fun q => s.heap.size ≤ q) (hts (.laysStatic Bundle.tN "SUPPRESSED_SENTINEL" Bundle.listD) (by decide +kernel)) (hts (.initialized Bundle.tN) (by decide +kernel)) (hs (.isRef (.static Bundle.tN "SUPPRESSED_SENTINEL" Bundle.listD)) (by decide +kernel)) (fun a h1 h2 => absurd h1 (Nat.not_lt.mpr h2))
  refine ⟨(fun c => match c with | 0 => c0 | 1 => c1 | 2 => c2 | 3 => c3 | _ => c4, fun c => match c with | 0 => i0 | 1 => i1 | 2 => i2 | 3 => i3 | _ => i4), fun k => match k with | 0 => a0 | 1 => a1 | 2 => a2 | 3 => a3 | _ => a4, fun ad => ⟨⟨⟨fun c q hq => ?_, fun k q hk => ?_⟩, hz1, hz2, fun q hq => str0 (hts _ (tl_str q hq)), fun q hq => nw_nst (hts _ (tl_nst q hq)), fun q hq => nw_cst (hts _ (tl_cst q hq)), fun q hq => nw_dcl (hts _ (tl_dcl q hq))⟩, ⟨fun c q hq => ?_, fun k q hk => ?_⟩, ao_0 hoO, aoa_0 hoA⟩⟩
  · match c, hq with
    | 0, hq => cases hq; exact k0
    | 1, hq => cases hq; exact k1
    | 2, hq => cases hq; exact k2
    | 3, hq => cases hq; exact k3
    | 4, hq => cases hq; exact k4
    | n + 5, hq => cases hq
  · match k, hk with
    | 0, hk => cases hk; exact ⟨a01, a02⟩
    | 1, hk => cases hk; exact ⟨a11, a12⟩
    | 2, hk => cases hk; exact ⟨a21, a22⟩
    | 3, hk => cases hk; exact ⟨a31, a32⟩
    | n + 4, hk => cases hk
  · match c, hq with
    | 0, hq => cases hq; exact k0
    | 1, hq => cases hq; exact k1
    | 2, hq => cases hq; exact k2
    | 3, hq => cases hq; exact k3
    | 4, hq => cases hq; exact k4
    | n + 5, hq => cases hq
  · match k, hk with
    | 0, hk => cases hk; exact ⟨a41, a42⟩
    | n + 1, hk => cases hk
abbrev Zs (E : Ev) (A : Nat → Prop) (ws : va_W) : Heap → Prop := fun H => va_P E.1 vcl ws H ∧ va_D A ws
section KQ
variable {M : MT} {E : Ev} {A : Nat → Prop} {nL : Nat} {Q : State → Prop} {kc ks : Nat} {ws : va_W} {pc : Nat} {L : List (Option Value)} {st : List Value} {cc : ByteArray} {own : String} {rt : Option FieldType} {base fr lo mc ms : Nat}
theorem kq_new {index ci N : Nat} {C : String} {T : u_T} {ty : Nat → FieldType} {fs : List Value} (K : OKq M E A nL cc own rt base fr lo mc ms) (hc : vcl[ci]? = some (C, T, N)) (hin : ∀ w ∈ u_ws C T N, w ∈ Gw) (hty : ∀ k, k < N → parseFieldDescriptor (T k).2.2.1 = some (ty k)) (hcl : Cond.classLink own index C ∈ Gw) (hins : Cond.instantiable C N ∈ Gw) (hini : Cond.initialized C ∈ Gw) (hfs : ∀ j, j < N → defaultValue (ty j) = vp_V fs j) (d : decode cc pc = .ok (.new index, 3)) (h1 : kc + 1 ≤ mc) (h2 : ks + N ≤ ms)
    (k : ∀ q : Nat, base ≤ q → VZ M A nL (kc + 1) (ks + N) Q (Zs E A (ws ++ [(q, .inr (ci, fs))])) (pc + 3) L (.ref q :: st)) : VZ M A nL kc ks Q (Zs E A ws) pc L st := by
  intro H locs ls hPD hS hl
  obtain ⟨hP, hD⟩ := hPD
  refine va_new (ci := ci) (fs := fs) (C := C) (T := T) (N := N) K.z.ex K.z.cd K.z.ts hin ty hty K.z.ow (K.z.ts _ hcl) (K.z.ts _ hins) (K.z.ts _ hini) K.am.1.1 hP hD hS K.hA hc hfs (Nat.le_trans h1 K.ce) (Nat.le_trans h2 K.sl) d (fun q H1 hP1 hD1 hS1 => k q (K.Ab q ?_) H1 locs ls ⟨hP1, hD1⟩ hS1 hl)
  exact hD1.2 ws.length (q, .inr (ci, fs)) (by rw [List.getElem?_append_right (Nat.le_refl _), Nat.sub_self]; rfl)
theorem kq_callI {y : MethodName} {cc' : ByteArray} {nL' fr' lo' mc' ms' index ci q : Nat} {fs : List Value} {post : Nat → va_W → Prop} (K : OKq M E A nL cc own rt base fr lo mc ms) (cv : CalI y cc' nL') (hlk : Cond.methodLink own index y ∈ Gw) (hM : KCtr M.2.1 y cc' nL' fr' lo' mc' ms' E base ci fs post) (hbq : base ≤ q) (hrm : (st.map fun v => v.category).sum ≤ 8) (hfr : fr' + 1 ≤ fr) (hlo : 8 + (nL' + 11) + lo' ≤ lo) (h1 : kc + mc' ≤ mc) (h2 : ks + ms' ≤ ms) (d : decode cc pc = .ok (.invokespecial index, 3))
    (k : ∀ w1 : va_W, post q w1 → VZ M A nL (kc + mc') (ks + ms') Q (Zs E A (ws ++ w1)) (pc + 3) L st) : VZ M A nL kc ks Q (Zs E A (ws ++ [(q, .inr (ci, fs))])) pc L (.ref q :: st) := by
  intro H locs ls hPD hS hl
  obtain ⟨hP, hD⟩ := hPD
  obtain ⟨c1, c2, c4, c5, c6, c7, c8⟩ := cv
  have hq0 : (ws ++ [(q, (.inr (ci, fs) : va_E))])[ws.length]? = some (q, .inr (ci, fs)) := by rw [List.getElem?_append_right (Nat.le_refl _), Nat.sub_self]; rfl
  have hPq : va_P E.1 vcl [(q, .inr (ci, fs))] H := sgP (hP ws.length _ hq0)
  have hAq : ∀ x, aO q H.size x → A x := fun x h => h.elim (fun e => by rw [e]; exact hD.2 _ _ hq0) (fun e => K.hA _ (Nat.le_trans hS.1 e))
  refine va_callv (S := va_W) (post := fun w => post q w) (B := fun w t => va_P E.1 vcl w t.heap ∧ va_D (aO q H.size) w) (A1 := aO q H.size) (free := aO q H.size) (a := ([.ref q] : List Value).toArray) (mc := mc') (ms := ms') (rest := st) ?_ hS (fun x _ h => hAq x h) hAq (fun w t H1 locs1 ht hvm hw hB hz1 hk1 hS1 => ?_)
  · have hr := va_runI (p := M.1) (e := M.2.2.1) (R := M.2.2.2.1) (below := M.2.2.2.2.2.2.2.1) (meth := M.2.2.2.2.2.2.2.2.1) (H := H) (locs := locs) (cells := kc) (slots := ks) (g := F0 M.2.2.2.2.2.1 pc ls (.ref q :: st)) (Ts := Cond.code y cc' nL' none :: Gw) (bytes := cc') (maxL := nL') (n := 0) (own := own) (index := index) (As := []) (b := q) (rest := st) ⟨K.z.ex, K.z.cd, K.z.ml, K.z.ow, fun w hw => (List.mem_cons.mp hw).elim (fun z => by rw [z]; exact K.z.ts _ c1) (K.z.ts w)⟩ (hM q H.size hbq) (cwI 0 (fun w hw => (List.mem_cons.mp hw).elim (fun z => by rw [z]; exact K.z.ts _ c1) (K.z.ts w)) (good_cg (c0 := Cond.code y cc' nL' none) c1) rfl rfl rfl (K.z.ts _ c4) (K.z.ts _ hlk) (K.z.ts _ c2) c8 ⟨c5, c6, c7⟩ ⟨Nat.le_trans hfr K.frm, Nat.le_trans hlo K.loc⟩) ⟨fun a U g mk z => ⟨z.1, z.2.1, z.2.2.1, z.2.2.2.1, AmbK.same z.2.2.2.2 rfl rfl⟩, fun U hU hW => ⟨rfl, by rw [hU], Nat.le_trans K.bs hS.1, by rw [hU]; exact hPq, AmbK.go K.am hW (fun a h1 h2 => by rw [hU]; exact hS.2.1 a h1 (fun z => h2 (K.Ab _ z)))⟩⟩ rfl rfl hl.1 rfl (lv_room hrm) d ⟨Nat.le_trans h1 K.ce, Nat.le_trans h2 K.sl⟩
    intro T hT Xs
    obtain ⟨v, st₀, t, T', L2, a1, a2, a3, a4, a5, ⟨⟨w, b1, b2, b3, b4⟩, b5⟩, a7⟩ := hr T hT Xs
    exact ⟨v, st₀, t, T', L2, a1, a2, a3, a4, a5, ⟨⟨w, b1, b2, b3, b4⟩, b5⟩, a7⟩
  · obtain ⟨hP1, hD1⟩ := hB
    rw [ht] at hP1
    obtain ⟨hP2, hD2⟩ := joinA (Ac := aO q H.size) hP hD (fun x h => h.elim (fun e => Or.inl ⟨0, .inr (ci, fs), by rw [e]; rfl⟩) Or.inr) hk1 hAq hP1 hD1
    exact k w hw H1 locs1 ls ⟨hP2, hD2⟩ hS1 hl
theorem kq_newL {n : Int32} {N : Nat} (K : OKq M E A nL cc own rt base fr lo mc ms) (d : decode cc pc = .ok (.newarray .long, 2)) (hn : ¬ n < 0) (hN : n.toNatClampNeg = N) (hb : N * componentBytes .long ≤ 536870912) (h1 : kc + 1 ≤ mc) (h2 : ks + N ≤ ms)
    (k : ∀ q : Nat, VZ M A nL (kc + 1) (ks + N) Q (Zs E A (ws ++ [(q, zL E N)])) (pc + 2) L (.ref q :: st)) : VZ M A nL kc ks Q (Zs E A ws) pc L (.int n :: st) := by
  intro H locs ls hPD hS hl
  obtain ⟨hP, hD⟩ := hPD
  refine va_newaK (atype := .long) K.z.ex K.z.cd (K.z.ts _ ar_long) rfl d rfl hn hN hb (Nat.le_trans h1 K.ce) (Nat.le_trans h2 K.sl) rfl fun H1 cA e1 z1 o1 hAr hNm => ?_
  have hcA : cA = E.2.1 0 := Option.some.inj (hNm.symm.trans (K.am.1.1.2 0 _ rfl).2)
  subst hcA
  have hk : ∀ (k : Nat) (x : Nat × va_E), ws[k]? = some x → H1[x.1]? = H[x.1]? := fun k x hx => o1 x.1 ((hP k x hx).lt)
  refine k H.size H1 locs ls ⟨(hP.kept hk).app (fun k x hx => ?_), hD.push hP rfl (K.hA _ hS.1)⟩ ⟨Nat.le_trans hS.1 (by omega), fun x h1 h2 => (o1 x (Nat.lt_of_lt_of_le h1 hS.1)).trans (hS.2.1 x h1 h2), hS.2.2⟩ hl
  have hz : k < 1 := (List.getElem?_eq_some_iff.mp hx).1
  rw [show k = 0 by omega] at hx
  cases hx
  exact e1
end KQ
