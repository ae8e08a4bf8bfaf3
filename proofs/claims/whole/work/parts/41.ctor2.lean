/-- what a callee left alone, beside what it made of its own cells -/
theorem joinA {A0 : Nat → Prop} {D : va_G} {cl : List vw_C} {wr wc w1 : va_W} {H H1 : Heap} {Ac : Nat → Prop} (hP : va_P D cl (wr ++ wc) H) (hD : va_D A0 (wr ++ wc)) (hAc : ∀ q, Ac q → (∃ (k : Nat) (e : va_E), wc[k]? = some (q, e)) ∨ H.size ≤ q) (hk : ∀ q : Nat, q < H.size → ¬ Ac q → H1[q]? = H[q]?) (hF : ∀ q, Ac q → A0 q) (hP1 : va_P D cl w1 H1) (hD1 : va_D Ac w1) : va_P D cl (wr ++ w1) H1 ∧ va_D A0 (wr ++ w1) := by
  have apart : ∀ (k : Nat) (q : Nat × va_E), wr[k]? = some q → q.1 < H.size ∧ ¬ Ac q.1 := by
    intro k q hq
    have hl : k < wr.length := (List.getElem?_eq_some_iff.mp hq).1
    have hq2 : (wr ++ wc)[k]? = some q := by rw [List.getElem?_append_left hl]; exact hq
    have h9 := (hP k q hq2).lt
    refine ⟨h9, fun h => ?_⟩
    rcases hAc _ h with ⟨k2, e, h2⟩ | h2
    · have h3 : (wr ++ wc)[wr.length + k2]? = some (q.1, e) := by rw [List.getElem?_append_right (by omega), Nat.add_sub_cancel_left]; exact h2
      have := hD.1 k (wr.length + k2) q (q.1, e) hq2 h3 rfl
      omega
    · omega
  refine ⟨va_P.app (fun k q hq => ?_) hP1, va_D.app ⟨fun i j x y hx hy hxy => ?_, fun k q hq => ?_⟩ (hD1.weaken (fun k q _ h => hF q.1 h)) (fun i j x y hx hy hxy => ?_)⟩
  · have hl : k < wr.length := (List.getElem?_eq_some_iff.mp hq).1
    have hq2 : (wr ++ wc)[k]? = some q := by rw [List.getElem?_append_left hl]; exact hq
    obtain ⟨g1, g2⟩ := apart k q hq
    exact (hP k q hq2).kept (hk q.1 g1 g2)
  · have hl : i < wr.length := (List.getElem?_eq_some_iff.mp hx).1
    have hl2 : j < wr.length := (List.getElem?_eq_some_iff.mp hy).1
    exact hD.1 i j x y (by rw [List.getElem?_append_left hl]; exact hx) (by rw [List.getElem?_append_left hl2]; exact hy) hxy
  · have hl : k < wr.length := (List.getElem?_eq_some_iff.mp hq).1
    exact hD.2 k q (by rw [List.getElem?_append_left hl]; exact hq)
  · exact (apart i x hx).2 (by rw [hxy]; exact hD1.2 j y hy)
section VCS
variable {M : MT} {E : Ev} {A : Nat → Prop} {nL : Nat} {Q : State → Prop} {kc ks : Nat} {ws : va_W} {pc : Nat} {L : List (Option Value)} {st : List Value} {cc : ByteArray} {own : String} {base fr lo mc ms : Nat}
theorem k_new {index ci N : Nat} {C : String} {T : u_T} {ty : Nat → FieldType} {fs : List Value} (K : OKc M E A nL cc own base fr lo mc ms) (hc : vcl[ci]? = some (C, T, N)) (hin : ∀ w ∈ u_ws C T N, w ∈ Gw) (hty : ∀ k, k < N → parseFieldDescriptor (T k).2.2.1 = some (ty k)) (hcl : Cond.classLink own index C ∈ Gw) (hins : Cond.instantiable C N ∈ Gw) (hini : Cond.initialized C ∈ Gw) (hfs : ∀ j, j < N → defaultValue (ty j) = vp_V fs j) (d : decode cc pc = .ok (.new index, 3)) (h1 : kc + 1 ≤ mc) (h2 : ks + N ≤ ms)
    (k : ∀ q : Nat, base ≤ q → VC M E A nL Q (kc + 1) (ks + N) (ws ++ [(q, .inr (ci, fs))]) (pc + 3) L (.ref q :: st)) : VC M E A nL Q kc ks ws pc L st := by
  intro H locs ls hP hD hS hl
  refine va_new (ci := ci) (fs := fs) (C := C) (T := T) (N := N) K.ex K.cd K.ts hin ty hty K.ow (K.ts _ hcl) (K.ts _ hins) (K.ts _ hini) K.am.1.1 hP hD hS K.hA hc hfs (Nat.le_trans h1 K.ce) (Nat.le_trans h2 K.sl) d (fun q H1 hP1 hD1 hS1 => k q (K.Ab q ?_) H1 locs ls hP1 hD1 hS1 hl)
  exact hD1.2 ws.length (q, .inr (ci, fs)) (by rw [List.getElem?_append_right (Nat.le_refl _), Nat.sub_self]; rfl)
def CalI (y : MethodName) (cc : ByteArray) (nL : Nat) : Prop := Cond.code y cc nL none ∈ Gw ∧ Cond.instanceMethod y ∈ Gw ∧ Cond.initialized y.cls ∈ Gw ∧ y.cls ≠ "java/lang/invoke/MethodHandle" ∧ y.cls ≠ "java/lang/invoke/VarHandle" ∧ (parseMethodDescriptor y.desc).map (fun d => d.parameters.length) = some 0 ∧ y.name = "<init>"
/-- a nest mate's constructor, its object the last cell of the world -/
theorem k_callN {y : MethodName} {cc' : ByteArray} {host : String} {nL' fr' lo' mc' ms' index ci q : Nat} {fs : List Value} {post : Nat → va_W → Prop} (K : OKc M E A nL cc own base fr lo mc ms) (cv : CalI y cc' nL') (hlk : (own, index, y, host) ∈ gNst) (hM : KCtr M.2.1 y cc' nL' fr' lo' mc' ms' E base ci fs post) (hbq : base ≤ q) (hrm : (st.map fun v => v.category).sum ≤ 8) (hfr : fr' + 1 ≤ fr) (hlo : 8 + (nL' + 11) + lo' ≤ lo) (h1 : kc + mc' ≤ mc) (h2 : ks + ms' ≤ ms) (d : decode cc pc = .ok (.invokespecial index, 3))
    (k : ∀ w1 : va_W, post q w1 → VC M E A nL Q (kc + mc') (ks + ms') (ws ++ w1) (pc + 3) L st) : VC M E A nL Q kc ks (ws ++ [(q, .inr (ci, fs))]) pc L (.ref q :: st) := by
  intro H locs ls hP hD hS hl
  obtain ⟨c1, c2, c4, c5, c6, c7, c8⟩ := cv
  have hq0 : (ws ++ [(q, (.inr (ci, fs) : va_E))])[ws.length]? = some (q, .inr (ci, fs)) := by rw [List.getElem?_append_right (Nat.le_refl _), Nat.sub_self]; rfl
  have hPq : va_P E.1 vcl [(q, .inr (ci, fs))] H := by
    intro j x hx
    have hz : j < 1 := (List.getElem?_eq_some_iff.mp hx).1
    rw [show j = 0 by omega] at hx
    cases hx
    exact hP ws.length _ hq0
  have hAq : ∀ x, aO q H.size x → A x := fun x h => h.elim (fun e => by rw [e]; exact hD.2 _ _ hq0) (fun e => K.hA _ (Nat.le_trans hS.1 e))
  refine va_callv (S := va_W) (post := fun w => post q w) (B := fun w t => va_P E.1 vcl w t.heap ∧ va_D (aO q H.size) w) (A1 := aO q H.size) (free := aO q H.size) (a := ([.ref q] : List Value).toArray) (mc := mc') (ms := ms') (rest := st) ?_ hS (fun x _ h => hAq x h) hAq (fun w t H1 locs1 ht hvm hw hB hz1 hk1 hS1 => ?_)
  · have hr := va_runIN (p := M.1) (e := M.2.2.1) (R := M.2.2.2.1) (below := M.2.2.2.2.2.2.2.1) (meth := M.2.2.2.2.2.2.2.2.1) (H := H) (locs := locs) (cells := kc) (slots := ks) (g := F0 M.2.2.2.2.2.1 pc ls (.ref q :: st)) (Ts := Cond.code y cc' nL' none :: Gw) (bytes := cc') (maxL := nL') (n := 0) (own := own) (host := host) (index := index) (As := []) (b := q) (rest := st) ⟨K.ex, K.cd, K.ml, K.ow, fun w hw => (List.mem_cons.mp hw).elim (fun z => by rw [z]; exact K.ts _ c1) (K.ts w)⟩ (hM q H.size hbq) ⟨va_cnB 0 (fun w hw => (List.mem_cons.mp hw).elim (fun z => by rw [z]; exact K.ts _ c1) (K.ts w)) (good_cg (c0 := Cond.code y cc' nL' none) c1) rfl rfl rfl (K.am.1.2.2.2.2.1 _ hlk) (K.ts _ c4) ⟨c5, c6, c7⟩ ⟨Nat.le_trans hfr K.frm, Nat.le_trans hlo K.loc⟩, c8, K.ts _ c2⟩ ⟨fun a U g mk z => ⟨z.1, z.2.1, z.2.2.1, z.2.2.2.1, AmbK.same z.2.2.2.2 rfl rfl⟩, fun U hU hW => ⟨rfl, by rw [hU], Nat.le_trans K.bs hS.1, by rw [hU]; exact hPq, AmbK.go K.am hW (fun a h1 h2 => by rw [hU]; exact hS.2.1 a h1 (fun z => h2 (K.Ab _ z)))⟩⟩ rfl rfl hl.1 rfl (lv_room hrm) d ⟨Nat.le_trans h1 K.ce, Nat.le_trans h2 K.sl⟩
    intro T hT Xs
    obtain ⟨v, st₀, t, T', L2, a1, a2, a3, a4, a5, ⟨⟨w, b1, b2, b3, b4⟩, b5⟩, a7⟩ := hr T hT Xs
    exact ⟨v, st₀, t, T', L2, a1, a2, a3, a4, a5, ⟨⟨w, b1, b2, b3, b4⟩, b5⟩, a7⟩
  · obtain ⟨hP1, hD1⟩ := hB
    rw [ht] at hP1
    obtain ⟨hP2, hD2⟩ := joinA (Ac := aO q H.size) hP hD (fun x h => h.elim (fun e => Or.inl ⟨0, .inr (ci, fs), by rw [e]; rfl⟩) Or.inr) hk1 hAq hP1 hD1
    exact k w hw H1 locs1 ls hP2 hD2 hS1 hl
/-- new Table[n] -/
theorem k_anew {index N : Nat} {n : Int32} (K : OKc M E A nL cc own base fr lo mc ms) (hcl : Cond.classLink own index RX1 ∈ Gw) (d : decode cc pc = .ok (.anewarray index, 3)) (hn : ¬ n < 0) (hN : n.toNatClampNeg = N) (hb : N * 4 ≤ 536870912) (h1 : kc + 1 ≤ mc) (h2 : ks + N ≤ ms) (k : ∀ q : Nat, VC M E A nL Q (kc + 1) (ks + N) (ws ++ [(q, .inl (E.2.1 4, N, .inr (.inr (.inr (.inr (fun _ => none))))))]) (pc + 3) L (.ref q :: st)) : VC M E A nL Q kc ks ws pc L (.int n :: st) := by
  intro H locs ls hP hD hS hl
  refine va_newq (C := RX1) K.ex K.cd K.ow (K.ts _ hcl) K.am.2.2.1 K.am.1.1 hP hD hS K.hA hn hN hb (Nat.le_trans h1 K.ce) (Nat.le_trans h2 K.sl) d (fun q cA H1 hKn hP1 hD1 hS1 => ?_)
  have hcA : cA = E.2.1 4 := by
    obtain ⟨_, _, _, _, _, a1⟩ := (hKn.2 4 (cA, .object RX1) rfl).2
    obtain ⟨_, _, _, _, _, a2⟩ := (K.am.2.1.2 0 (E.2.1 4, .object RX1) rfl).2
    exact Option.some.inj (a1.symm.trans a2)
  subst hcA
  exact k q H1 locs ls hP1 hD1 hS1 hl
end VCS
