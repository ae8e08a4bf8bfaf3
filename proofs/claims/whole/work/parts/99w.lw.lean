/-! the law's cases: what they have in common -/
abbrev JI (I : Im) : Ims := fun k => (I k).map (fun p => p.2)
theorem Rl.same {I : Ims} {s s' u : St} (h : Rl I s u) (hf : ∀ j, j < 19 → s'.1 j = s.1 j ∧ s'.2 j = s.2 j) : Rl I s' u := by
  obtain ⟨n, k, w, C, M, q, J, h1, h2, h3, h4⟩ := h
  exact ⟨n, k, w, C, M, q, J, h1, h2.of hf, h3, h4⟩
theorem mgO_lo {σ1 σ : St} {j : Nat} (h : j < 28) : (mgO σ1 σ).1 j = σ1.1 j ∧ (mgO σ1 σ).2 j = σ1.2 j := ⟨if_pos h, if_pos h⟩
theorem Rl.mg {I : Ims} {s1 s u : St} (h : Rl I s1 u) : Rl I (mgO s1 s) u := h.same fun j hj => mgO_lo (by omega)
theorem Rl.out {I : Ims} {s u : St} {v : Int64} (h : Rl I s u) : Rl I (sL s 28 0 v) u := h.same fun j hj => ⟨rfl, sL_ne (by omega)⟩
theorem sL_out {s : St} {v : Int64} : (sL s 28 0 v).2 28 0 = v := by
  show (if (28 : Nat) = 28 ∧ (0 : Nat) = 0 then v else s.2 28 0) = v
  exact if_pos ⟨rfl, rfl⟩
/-- a little method and the reference's method, told together -/
def Lw {α : Type} (toL : α → Int64) (C : Int32 → St → Prop) (mo : Option (α × St)) (J : Ims) : Prop :=
  ∃ (k : Int32) (σ' μ1 : St) (v : α), C k σ' ∧ mo = some (v, μ1) ∧ μ1.1 0 0 = k ∧ (k = 0 → σ'.2 28 0 = toL v) ∧ Rl J σ' μ1
section AL
variable {α : Type} {J : Ims} {σ : St} {co : Option (Except String α × St)} {mo : Option (α × St)} {toL : α → Int64} {C : Int32 → St → Prop} {e1 e2 e3 : String}
theorem Agr.lw3 (h : Agr [e1, e2, e3] (Rl J) co mo) (ho : ∀ v σ1, co = some (.ok v, σ1) → C 0 (sL (mgO σ1 σ) 28 0 (toL v))) (h1 : ∀ σ1, co = some (.error e1, σ1) → C 1 (mgO σ1 σ)) (h2 : ∀ σ1, co = some (.error e2, σ1) → C 2 (mgO σ1 σ)) (h3 : ∀ σ1, co = some (.error e3, σ1) → C 3 (mgO σ1 σ)) : Lw toL C mo J := by
  obtain ⟨v, u1, hm, ⟨s1, hc, h0, hr⟩ | ⟨e, s1, j, hc, hj, hk, hr⟩⟩ := h
  · exact ⟨0, _, u1, v, ho v s1 hc, hm, h0, fun _ => sL_out, hr.mg.out⟩
  · match j, hj with
    | 0, hj => cases hj; exact ⟨1, _, u1, v, h1 s1 hc, hm, hk, fun q => absurd q (by decide), hr.mg⟩
    | 1, hj => cases hj; exact ⟨2, _, u1, v, h2 s1 hc, hm, hk, fun q => absurd q (by decide), hr.mg⟩
    | 2, hj => cases hj; exact ⟨3, _, u1, v, h3 s1 hc, hm, hk, fun q => absurd q (by decide), hr.mg⟩
    | j + 3, hj => cases hj
theorem Agr.lw2 (h : Agr [e1, e2] (Rl J) co mo) (ho : ∀ v σ1, co = some (.ok v, σ1) → C 0 (sL (mgO σ1 σ) 28 0 (toL v))) (h1 : ∀ σ1, co = some (.error e1, σ1) → C 1 (mgO σ1 σ)) (h2 : ∀ σ1, co = some (.error e2, σ1) → C 2 (mgO σ1 σ)) : Lw toL C mo J := by
  obtain ⟨v, u1, hm, ⟨s1, hc, h0, hr⟩ | ⟨e, s1, j, hc, hj, hk, hr⟩⟩ := h
  · exact ⟨0, _, u1, v, ho v s1 hc, hm, h0, fun _ => sL_out, hr.mg.out⟩
  · match j, hj with
    | 0, hj => cases hj; exact ⟨1, _, u1, v, h1 s1 hc, hm, hk, fun q => absurd q (by decide), hr.mg⟩
    | 1, hj => cases hj; exact ⟨2, _, u1, v, h2 s1 hc, hm, hk, fun q => absurd q (by decide), hr.mg⟩
    | j + 2, hj => cases hj
theorem Agr.lw1 (h : Agr [e1] (Rl J) co mo) (ho : ∀ v σ1, co = some (.ok v, σ1) → C 0 (sL (mgO σ1 σ) 28 0 (toL v))) (h1 : ∀ σ1, co = some (.error e1, σ1) → C 1 (mgO σ1 σ)) : Lw toL C mo J := by
  obtain ⟨v, u1, hm, ⟨s1, hc, h0, hr⟩ | ⟨e, s1, j, hc, hj, hk, hr⟩⟩ := h
  · exact ⟨0, _, u1, v, ho v s1 hc, hm, h0, fun _ => sL_out, hr.mg.out⟩
  · match j, hj with
    | 0, hj => cases hj; exact ⟨1, _, u1, v, h1 s1 hc, hm, hk, fun q => absurd q (by decide), hr.mg⟩
    | j + 1, hj => cases hj
end AL
abbrev LL (b : Nat) (E : Ev) (am : Nat → Nat) (n : Nat) : List (Option Value) := [some (.ref b), some (.ref (E.2.2 0)), some (.ref (am 0)), some (.ref (E.2.2 28)), some (.int (nI n)), none, none, none]
abbrev L5 (b : Nat) (E : Ev) (am : Nat → Nat) (n : Nat) (k : Int32) : List (Option Value) := [some (.ref b), some (.ref (E.2.2 0)), some (.ref (am 0)), some (.ref (E.2.2 28)), some (.int (nI n)), some (.int k), none, none]
abbrev lgv (x y : Int32) : Int64 := (x.toInt64 <<< ((32 : Int32).toInt64 &&& 63)) ||| (y.toInt64 &&& (4294967295))
section LR
variable {M : MT} {E : Ev} {b Ln : Nat} {xs : Nat → Int32} {base kc ks n : Nat} {Q : State → Prop} {Z : Heap → Prop} {am : Nat → Nat} {σ μ : St} {I : Im} {pc : Nat} {L : List (Option Value)} {st : List Value} {x1 x2 x3 : Option Value} {t : List (Option Value)}
theorem z_ar (j : Nat) {m : Int} (K : OKl M E b Ln xs base) (hn : n + 8 ≤ Ln) (d0 : decode cL_law pc = .ok (.aload_n 0, 1)) (d1 : decode cL_law (pc + 1) = .ok (.iload 4, 2)) (d2 : decode cL_law (pc + 3) = .ok (.iconst m, 1)) (d3 : decode cL_law (pc + 4) = .ok (.iadd, 1)) (d4 : decode cL_law (pc + 5) = .ok (.iaload, 1)) (hm : Int32.ofInt m = nI j) (hj : j < 8)
    (kk : VZ M (bA base) 8 kc ks Q Z (pc + 6) (some (.ref b) :: x1 :: x2 :: x3 :: some (.int (nI n)) :: t) (.int (xs (n + j)) :: st)) : VZ M (bA base) 8 kc ks Q Z pc (some (.ref b) :: x1 :: x2 :: x3 :: some (.int (nI n)) :: t) st :=
  z_aload0 K.z d0 (z_iload4 (pc := pc + 1) K.z d1 (z_iconst (pc := pc + 3) K.z d2 hm (z_iadd (pc := pc + 4) K.z d3 (z_sld (pc := pc + 5) j K d4 rfl (by omega) kk))))
theorem z_arb (j : Nat) {m : Int} (K : OKl M E b Ln xs base) (hn : n + 8 ≤ Ln) (d0 : decode cL_law pc = .ok (.aload_n 0, 1)) (d1 : decode cL_law (pc + 1) = .ok (.iload 4, 2)) (d2 : decode cL_law (pc + 3) = .ok (.bipush m, 2)) (d3 : decode cL_law (pc + 5) = .ok (.iadd, 1)) (d4 : decode cL_law (pc + 6) = .ok (.iaload, 1)) (hm : (Int8.ofInt m).toInt32 = nI j) (hj : j < 8)
    (kk : VZ M (bA base) 8 kc ks Q Z (pc + 7) (some (.ref b) :: x1 :: x2 :: x3 :: some (.int (nI n)) :: t) (.int (xs (n + j)) :: st)) : VZ M (bA base) 8 kc ks Q Z pc (some (.ref b) :: x1 :: x2 :: x3 :: some (.int (nI n)) :: t) st :=
  z_aload0 K.z d0 (z_iload4 (pc := pc + 1) K.z d1 (z_bipush (pc := pc + 3) K.z d2 hm (z_iadd (pc := pc + 5) K.z d3 (z_sld (pc := pc + 6) j K d4 rfl (by omega) kk))))
theorem z_hi {x : Int32} (K : OKl M E b Ln xs base) (d0 : decode cL_law pc = .ok (.i2l, 1)) (d1 : decode cL_law (pc + 1) = .ok (.bipush 32, 2)) (d2 : decode cL_law (pc + 3) = .ok (.lshl, 1))
    (kk : VZ M (bA base) 8 kc ks Q Z (pc + 4) L (.long (x.toInt64 <<< ((32 : Int32).toInt64 &&& 63)) :: st)) : VZ M (bA base) 8 kc ks Q Z pc L (.int x :: st) :=
  z_i2l K.z d0 (z_bipush (pc := pc + 1) (v := 32) K.z d1 (by decide) (z_lshl (pc := pc + 3) K.z d2 kk))
theorem z_lo {x : Int64} {y : Int32} (K : OKl M E b Ln xs base) (d0 : decode cL_law pc = .ok (.i2l, 1)) (d1 : decode cL_law (pc + 1) = .ok (.ldc2_w 223, 3)) (d2 : decode cL_law (pc + 4) = .ok (.land, 1)) (d3 : decode cL_law (pc + 5) = .ok (.lor, 1))
    (kk : VZ M (bA base) 8 kc ks Q Z (pc + 6) L (.long (x ||| (y.toInt64 &&& (4294967295))) :: st)) : VZ M (bA base) 8 kc ks Q Z pc L (.int y :: .long x :: st) :=
  z_i2l K.z d0 (z_ldc2 (pc := pc + 1) K.z d1 cl_RL_223 (z_land (pc := pc + 4) K.z d2 (z_lor (pc := pc + 5) K.z d3 kk)))
theorem z_fl {x : Int32} (K : OKl M E b Ln xs base) (d0 : decode cL_law pc = .ok (.ifCond .eq 7, 3)) (d1 : decode cL_law (pc + 3) = .ok (.iconst 1, 1)) (d2 : decode cL_law (pc + 4) = .ok (.goto 4, 3)) (d3 : decode cL_law (pc + 7) = .ok (.iconst 0, 1))
    (kk : VZ M (bA base) 8 kc ks Q Z (pc + 8) L (.int (bI (x != 0)) :: st)) : VZ M (bA base) 8 kc ks Q Z pc L (.int x :: st) := by
  refine z_if_eq (tgt := pc + 7) K.z d0 (by omega) (fun q => ?_) (fun q => ?_)
  · refine z_ic0 (pc := pc + 7) K.z d3 ?_
    have e : bI (x != 0) = 0 := by rw [q]; rfl
    rw [e] at kk
    exact kk
  · refine z_ic1 (pc := pc + 3) K.z d1 (z_goto (pc := pc + 4) (tgt := pc + 8) K.z d2 (by omega) ?_)
    have e : bI (x != 0) = 1 := by
      have h : (x != 0) = true := by rw [bne_iff_ne]; exact q
      rw [h]; rfl
    rw [e] at kk
    exact kk
/-- how a case goes on -/
def Kn (M : MT) (E : Ev) (am : Nat → Nat) (b base n kc ks : Nat) (Q : State → Prop) : Prop := ∀ (σ μ : St) (I : Im), DJ E am I base → Rl (JI I) σ μ → VZ M (bA base) 8 kc ks Q (Wl E am σ I μ) 5054 (LL b E am n) []
theorem z_thr {rest : List Value} (K : OKl M E b Ln xs base) (hD : DJ E am I base) (hrm : (rest.map fun v => v.category).sum ≤ 8) (h1 : kc ≤ 603072) (h2 : ks ≤ 7211114) (d : decode cL_law pc = .ok (.invokevirtual 213, 3))
    (kv : VZ M (bA base) 8 kc ks Q (Wl E am σ I μ) (pc + 3) L (.int (μ.1 0 0) :: rest)) : VZ M (bA base) 8 kc ks Q (Wl E am σ I μ) pc L (.ref (am 0) :: rest) :=
  z_lM (As := []) K hD ca_yX4_thrown ml_RL_213 rfl (t_X4_thrown _ K.q.nt hD.2.1 μ (μ.1 0 0) rfl) rfl rfl hrm (Nat.le_of_ble_eq_true rfl) (Nat.le_of_ble_eq_true rfl) h1 h2 d kv
theorem z_tI {v k : Int32} {off : Int} (K : OKl M E b Ln xs base) (hD : DJ E am I base) (hR : Rl (JI I) σ μ) (hk : μ.1 0 0 = k) (hv : k = 0 → σ.2 28 0 = v.toInt64) (h1 : kc ≤ 603072) (h2 : ks ≤ 7211114)
    (d0 : decode cL_law pc = .ok (.istore 6, 2)) (d1 : decode cL_law (pc + 2) = .ok (.aload_n 2, 1)) (d2 : decode cL_law (pc + 3) = .ok (.invokevirtual 213, 3)) (d3 : decode cL_law (pc + 6) = .ok (.iload 5, 2)) (d4 : decode cL_law (pc + 8) = .ok (.if_icmp .eq 5, 3)) (d5 : decode cL_law (pc + 13) = .ok (.iload 5, 2)) (d6 : decode cL_law (pc + 15) = .ok (.ifCond .ne 15, 3)) (d7 : decode cL_law (pc + 18) = .ok (.aload_n 3, 1)) (d8 : decode cL_law (pc + 19) = .ok (.iconst 0, 1)) (d9 : decode cL_law (pc + 20) = .ok (.laload, 1)) (d10 : decode cL_law (pc + 21) = .ok (.iload 6, 2)) (d11 : decode cL_law (pc + 23) = .ok (.i2l, 1)) (d12 : decode cL_law (pc + 24) = .ok (.lcmp, 1)) (d13 : decode cL_law (pc + 25) = .ok (.ifCond .eq 5, 3)) (d14 : decode cL_law (pc + 30) = .ok (.goto off, 3)) (ht : ((pc + 30 : Nat) : Int) + off = ((5054 : Nat) : Int))
    (kk : Kn M E am b base n kc ks Q) : VZ M (bA base) 8 kc ks Q (Wl E am σ I μ) pc (L5 b E am n k) [.int v] := by
  refine z_istore6 K.z d0 rfl (by decide) ?_
  refine z_aload2 (pc := pc + 2) K.z d1 ?_
  refine z_thr (pc := pc + 3) K hD (by decide) h1 h2 d2 ?_
  refine z_iload5 (pc := pc + 6) K.z d3 ?_
  refine z_icmp_eq (pc := pc + 8) (tgt := pc + 13) K.z d4 (by omega) (fun _ => ?_) (fun q => absurd hk q)
  refine z_iload5 (pc := pc + 13) K.z d5 ?_
  refine z_if_ne (pc := pc + 15) (tgt := pc + 30) K.z d6 (by omega) (fun _ => ?_) (fun q => ?_)
  · refine z_goto (pc := pc + 30) (tgt := 5054) K.z d14 ht ?_
    exact z_fg [true, true, true, true, true, false, false, false] (kk σ μ I hD hR)
  · refine z_aload3 (pc := pc + 18) K.z d7 ?_
    refine z_ic0 (pc := pc + 19) K.z d8 ?_
    refine z_lout (pc := pc + 20) K d9 ?_
    refine z_iload6 (pc := pc + 21) K.z d10 ?_
    refine z_i2l (pc := pc + 23) K.z d11 ?_
    refine z_lc_eq (pc := pc + 24) (tgt := pc + 30) K.z d12 d13 (by omega) (fun _ => ?_) (fun w => absurd (hv q) w)
    refine z_goto (pc := pc + 30) (tgt := 5054) K.z d14 ht ?_
    exact z_fg [true, true, true, true, true, false, false, false] (kk σ μ I hD hR)
theorem z_tL {v : Int64} {k : Int32} {off : Int} (K : OKl M E b Ln xs base) (hD : DJ E am I base) (hR : Rl (JI I) σ μ) (hk : μ.1 0 0 = k) (hv : k = 0 → σ.2 28 0 = v) (h1 : kc ≤ 603072) (h2 : ks ≤ 7211114)
    (d0 : decode cL_law pc = .ok (.lstore 6, 2)) (d1 : decode cL_law (pc + 2) = .ok (.aload_n 2, 1)) (d2 : decode cL_law (pc + 3) = .ok (.invokevirtual 213, 3)) (d3 : decode cL_law (pc + 6) = .ok (.iload 5, 2)) (d4 : decode cL_law (pc + 8) = .ok (.if_icmp .eq 5, 3)) (d5 : decode cL_law (pc + 13) = .ok (.iload 5, 2)) (d6 : decode cL_law (pc + 15) = .ok (.ifCond .ne 14, 3)) (d7 : decode cL_law (pc + 18) = .ok (.aload_n 3, 1)) (d8 : decode cL_law (pc + 19) = .ok (.iconst 0, 1)) (d9 : decode cL_law (pc + 20) = .ok (.laload, 1)) (d10 : decode cL_law (pc + 21) = .ok (.lload 6, 2)) (d12 : decode cL_law (pc + 23) = .ok (.lcmp, 1)) (d13 : decode cL_law (pc + 24) = .ok (.ifCond .eq 5, 3)) (d14 : decode cL_law (pc + 29) = .ok (.goto off, 3)) (ht : ((pc + 29 : Nat) : Int) + off = ((5054 : Nat) : Int))
    (kk : Kn M E am b base n kc ks Q) : VZ M (bA base) 8 kc ks Q (Wl E am σ I μ) pc (L5 b E am n k) [.long v] := by
  refine z_lstore6 K.z d0 rfl (by decide) ?_
  refine z_aload2 (pc := pc + 2) K.z d1 ?_
  refine z_thr (pc := pc + 3) K hD (by decide) h1 h2 d2 ?_
  refine z_iload5 (pc := pc + 6) K.z d3 ?_
  refine z_icmp_eq (pc := pc + 8) (tgt := pc + 13) K.z d4 (by omega) (fun _ => ?_) (fun q => absurd hk q)
  refine z_iload5 (pc := pc + 13) K.z d5 ?_
  refine z_if_ne (pc := pc + 15) (tgt := pc + 29) K.z d6 (by omega) (fun _ => ?_) (fun q => ?_)
  · refine z_goto (pc := pc + 29) (tgt := 5054) K.z d14 ht ?_
    exact z_fg [true, true, true, true, true, false, false, false] (kk σ μ I hD hR)
  · refine z_aload3 (pc := pc + 18) K.z d7 ?_
    refine z_ic0 (pc := pc + 19) K.z d8 ?_
    refine z_lout (pc := pc + 20) K d9 ?_
    refine z_lload6 (pc := pc + 21) K.z d10 ?_
    refine z_lc_eq (pc := pc + 23) (tgt := pc + 29) K.z d12 d13 (by omega) (fun _ => ?_) (fun w => absurd (hv q) w)
    refine z_goto (pc := pc + 29) (tgt := 5054) K.z d14 ht ?_
    exact z_fg [true, true, true, true, true, false, false, false] (kk σ μ I hD hR)
end LR
