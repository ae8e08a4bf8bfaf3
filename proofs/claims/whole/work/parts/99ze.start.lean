theorem law_walk {M : MT} {G : va_G} {Ac : Nat → ClassId} {b Ln : Nat} {xs : Nat → Int32} {base : Nat} {Q : State → Prop} (K : ∀ ad : Nat → Nat, OKl M (G, Ac, ad) b Ln xs base)
    (he : ∀ (ad am : Nat → Nat) (σ μ : St) (I : Im) (n kc ks : Nat), kc ≤ 603072 → ks ≤ 7211114 → VZ M (bA base) 8 kc ks Q (Wl (G, Ac, ad) am σ I μ) 5060 (LL b (G, Ac, ad) am n) []) :
    VZ M (bA base) 8 0 0 Q (Zs (G, Ac, fun _ => 0) (bA base) []) 0 [some (.ref b), none, none, none, none, none, none, none] [] := by
  have K0 := K (fun _ => 0)
  refine kq_new (pc := 0) (ci := 3) (fs := [.null, .null, .null, .null, .null, .null, .int 0]) K0.q rfl inG_RX3 tyX3_ok kn_LX3 ki_RX3 kz_RX3 (fun j hj => match j, hj with | 0, _ => rfl | 1, _ => rfl | 2, _ => rfl | 3, _ => rfl | 4, _ => rfl | 5, _ => rfl | 6, _ => rfl | n + 7, h => absurd h (by omega)) dL_law_0 (by decide) (by decide) (fun o3 hb3 => ?_)
  refine z_dupR (pc := 3) K0.z dL_law_3 ?_
  refine kq_callI (pc := 4) K0.q kc_RX3 ml_RL_203 (k_X3 _ _ _) hb3 (Nat.le_of_ble_eq_true rfl) (Nat.le_of_ble_eq_true rfl) (Nat.le_of_ble_eq_true rfl) (by decide) (by decide) dL_law_4 (fun w3 h3 => ?_)
  refine z_astore1 (pc := 7) K0.z dL_law_7 rfl (by decide) ?_
  refine kq_new (pc := 8) (ci := 4) (fs := [.int 0, .null, .null, .null, .null, .int 0, .int 0, .int 0, .null, .null, .int 0, .null, .null, .null, .int 0, .null, .int 0, .null, .null, .null, .null, .null, .null, .null, .null, .null]) K0.q rfl inG_RX4 tyX4_ok kn_LX4 ki_RX4 kz_RX4 (fun j hj => match j, hj with | 0, _ => rfl | 1, _ => rfl | 2, _ => rfl | 3, _ => rfl | 4, _ => rfl | 5, _ => rfl | 6, _ => rfl | 7, _ => rfl | 8, _ => rfl | 9, _ => rfl | 10, _ => rfl | 11, _ => rfl | 12, _ => rfl | 13, _ => rfl | 14, _ => rfl | 15, _ => rfl | 16, _ => rfl | 17, _ => rfl | 18, _ => rfl | 19, _ => rfl | 20, _ => rfl | 21, _ => rfl | 22, _ => rfl | 23, _ => rfl | 24, _ => rfl | 25, _ => rfl | n + 26, h => absurd h (by omega)) dL_law_8 (by decide) (by decide) (fun o4 hb4 => ?_)
  refine z_dupR (pc := 11) K0.z dL_law_11 ?_
  refine kq_callI (pc := 12) K0.q kc_RX4 ml_RL_206 (k_X4 _ _ _) hb4 (Nat.le_of_ble_eq_true rfl) (Nat.le_of_ble_eq_true rfl) (Nat.le_of_ble_eq_true rfl) (by decide) (by decide) dL_law_12 (fun w4 h4 => ?_)
  refine z_astore2 (pc := 15) K0.z dL_law_15 rfl (by decide) ?_
  refine z_ic1 (pc := 16) K0.z dL_law_16 ?_
  refine kq_newL (pc := 17) (N := 1) K0.q dL_law_17 (by decide) (by decide) (by decide) (by decide) (by decide) (fun q => ?_)
  refine z_astore3 (pc := 19) K0.z dL_law_19 rfl (by decide) ?_
  refine z_ic0 (pc := 20) K0.z dL_law_20 ?_
  refine z_istore4 (pc := 21) K0.z dL_law_21 rfl (by decide) ?_
  obtain ⟨ad, am, e1, e2, e3, d1, d2, hW⟩ := start_w (q := q) h3 h4
  subst e1 e2 e3
  intro H locs ls hP hS hl
  exact law_go (K ad) (c0 := 50) (s0 := 15104) (by decide) (by decide) (he ad am) 513 0 zSt zSt iN rfl (start_dj d1 d2 hP.2) Rl0 H locs ls (hW H hP.1) hS hl
theorem whole_start {p : Program} {e : Env} {s : State} {m : MethodId} {below : List Frame} {meth : Method} {c : Code} (l : Launch) (hflags : l.flags = flags0) {b L : Nat} {xs : Nat → Int32} (hL : L ≤ 4096) (C0 : lw_At p s m meth c b L xs) : W p l e room_1 s m #[Value.ref b] below meth c s.heap [] 0 0 (lw_Z below #[Value.ref b] s) (entryFrame m ([Value.ref b] : List Value).toArray 8) := by
  obtain ⟨hx, hcd, hrt, hml, hown, hts, hX, hbl, hlk, hgv⟩ := C0
  obtain ⟨G, Ac, hAm⟩ := amb0 hts hgv
  have hnt : l.stackTraces = false := by
    unfold Launch.stackTraces
    rw [hflags]
    decide +kernel
  have K : ∀ ad : Nat → Nat, OKl (p, l, e, room_1, s, m, #[Value.ref b], below, meth, c) (G, Ac, ad) b L xs s.heap.size := fun ad => ⟨⟨⟨hx, hcd, hml, hlk, hown, fun w hw => hts w (List.mem_filter.mp hw).1⟩, hrt, hAm ad, fun q h => h, Nat.le_refl _, fun q h => h, Nat.le_refl _, Nat.le_refl _, Nat.le_refl _, Nat.le_refl _, hnt⟩, ncG0 hgv, hX, hbl, rfl, hL⟩
  have hk := law_walk (Q := lw_Z below #[Value.ref b] s) K (fun ad am σ μ I n kc ks h1 h2 => by
    refine z_ic1 (pc := 5060) (K ad).z dL_law_5060 ?_
    intro H locs ls hP hS hl
    exact va_forget (fun q hq => hS.2.2 q hq) (W.widen h1 h2 (lw_ret hx hcd hrt hlk dL_law_5061)))
  rw [lg_entry_eq]
  refine hk s.heap [] _ ⟨(fun k x hx => by cases hx), ⟨(fun i j x y hx => by cases hx), (fun k x hx => by cases hx)⟩⟩ va_S.rf ?_
  have hl := lv_entry [.ref b] (n := 8) (show 1 ≤ 8 by decide)
  have hL0 : ent [.ref b] ++ List.replicate 7 none = [some (.ref b), none, none, none, none, none, none, none] := rfl
  unfold lvL
  rw [← hL0, asc_ent]
  exact hl
