/-! the law's start: the world that there is then -/
def ixC (n : Nat) : Nat := if n ≤ 18 then n else if n = 40 then 19 else if n = 28 then 49 else n + 1
abbrev iN : Im := fun _ => none
theorem adx_iN {E : Ev} {n a : Nat} (h : adx E iN n = some a) : (n < 29 ∨ n = 40) ∧ a = E.2.2 n := by
  rcases adx_inv h with ⟨h1, h2⟩ | ⟨h1, h2⟩ | ⟨k, i, ad, τ, hk, hi, hn, hI, h2⟩
  · exact ⟨Or.inl h1, h2⟩
  · exact ⟨Or.inr h1, by rw [h1]; exact h2⟩
  · cases hI
set_option maxRecDepth 100000 in
set_option maxHeartbeats 4000000 in
theorem start_w {G : va_G} {Ac : Nat → ClassId} {ad0 : Nat → Nat} {o3 o4 q : Nat} {w3 w4 : va_W} (h3 : post_X3 (G, Ac, ad0) o3 w3) (h4 : post_X4 (G, Ac, ad0) o4 w4) : ∃ ad am : Nat → Nat, ad 0 = o3 ∧ am 0 = o4 ∧ ad 28 = q ∧ (∀ n, n < 29 ∨ n = 40 → ∃ e, ((([] ++ w3) ++ w4) ++ [(q, zL (G, Ac, ad0) 1)])[ixC n]? = some (ad n, e)) ∧ (∀ i, i < 20 → ∃ e, ((([] ++ w3) ++ w4) ++ [(q, zL (G, Ac, ad0) 1)])[29 + i]? = some (am i, e)) ∧ ∀ H, va_P G vcl ((([] ++ w3) ++ w4) ++ [(q, zL (G, Ac, ad0) 1)]) H → Wl (G, Ac, ad) am zSt iN zSt H := by
  obtain ⟨t1, w1, t2, t3, w5, t4, w6, t5, t6, rfl, ⟨b1, b2, r2, b3, r3, rfl⟩, ⟨p1, p2, p3, p4, rfl⟩, ⟨l1, rfl⟩⟩ := h3
  obtain ⟨m1, m2, m3, m4, m5, m6, m7, m8, m9, m10, m11, m12, m13, m14, m15, m16, m17, m18, m19, rfl⟩ := h4
  refine ⟨fun n => match n with | 0 => o3 | 1 => t1 | 2 => b1 | 3 => b2 | 4 => r2 0 | 5 => r2 1 | 6 => r2 2 | 7 => r2 3 | 8 => r2 4 | 9 => r2 5 | 10 => b3 | 11 => r3 0 | 12 => r3 1 | 13 => r3 2 | 14 => r3 3 | 15 => r3 4 | 16 => r3 5 | 17 => r3 6 | 18 => r3 7 | 19 => t3 | 20 => p1 | 21 => p2 | 22 => p3 | 23 => p4 | 24 => t4 | 25 => l1 | 26 => t5 | 27 => t6 | 28 => q | 40 => t2 | _ => 0, fun n => match n with | 0 => o4 | 1 => m1 | 2 => m2 | 3 => m3 | 4 => m4 | 5 => m5 | 6 => m6 | 7 => m7 | 8 => m8 | 9 => m9 | 10 => m10 | 11 => m11 | 12 => m12 | 13 => m13 | 14 => m14 | 15 => m15 | 16 => m16 | 17 => m17 | 18 => m18 | 19 => m19 | _ => 0, rfl, rfl, rfl, fun n hn => ?_, fun i hi => ?_, fun H hP => ⟨⟨wsP.mpr fun i hi => ?_, ?_, fun k ad τ hk hI => by cases hI⟩, wsP.mpr fun i hi => ?_⟩⟩
  · rcases hn with hn | rfl
    · match n, hn with
      | 0, _ => exact ⟨_, rfl⟩
      | 1, _ => exact ⟨_, rfl⟩
      | 2, _ => exact ⟨_, rfl⟩
      | 3, _ => exact ⟨_, rfl⟩
      | 4, _ => exact ⟨_, rfl⟩
      | 5, _ => exact ⟨_, rfl⟩
      | 6, _ => exact ⟨_, rfl⟩
      | 7, _ => exact ⟨_, rfl⟩
      | 8, _ => exact ⟨_, rfl⟩
      | 9, _ => exact ⟨_, rfl⟩
      | 10, _ => exact ⟨_, rfl⟩
      | 11, _ => exact ⟨_, rfl⟩
      | 12, _ => exact ⟨_, rfl⟩
      | 13, _ => exact ⟨_, rfl⟩
      | 14, _ => exact ⟨_, rfl⟩
      | 15, _ => exact ⟨_, rfl⟩
      | 16, _ => exact ⟨_, rfl⟩
      | 17, _ => exact ⟨_, rfl⟩
      | 18, _ => exact ⟨_, rfl⟩
      | 19, _ => exact ⟨_, rfl⟩
      | 20, _ => exact ⟨_, rfl⟩
      | 21, _ => exact ⟨_, rfl⟩
      | 22, _ => exact ⟨_, rfl⟩
      | 23, _ => exact ⟨_, rfl⟩
      | 24, _ => exact ⟨_, rfl⟩
      | 25, _ => exact ⟨_, rfl⟩
      | 26, _ => exact ⟨_, rfl⟩
      | 27, _ => exact ⟨_, rfl⟩
      | 28, _ => exact ⟨_, rfl⟩
      | n + 29, h => exact absurd h (by omega)
    · exact ⟨_, rfl⟩
  · match i, hi with
    | 0, _ => exact ⟨_, rfl⟩
    | 1, _ => exact ⟨_, rfl⟩
    | 2, _ => exact ⟨_, rfl⟩
    | 3, _ => exact ⟨_, rfl⟩
    | 4, _ => exact ⟨_, rfl⟩
    | 5, _ => exact ⟨_, rfl⟩
    | 6, _ => exact ⟨_, rfl⟩
    | 7, _ => exact ⟨_, rfl⟩
    | 8, _ => exact ⟨_, rfl⟩
    | 9, _ => exact ⟨_, rfl⟩
    | 10, _ => exact ⟨_, rfl⟩
    | 11, _ => exact ⟨_, rfl⟩
    | 12, _ => exact ⟨_, rfl⟩
    | 13, _ => exact ⟨_, rfl⟩
    | 14, _ => exact ⟨_, rfl⟩
    | 15, _ => exact ⟨_, rfl⟩
    | 16, _ => exact ⟨_, rfl⟩
    | 17, _ => exact ⟨_, rfl⟩
    | 18, _ => exact ⟨_, rfl⟩
    | 19, _ => exact ⟨_, rfl⟩
    | n + 20, h => exact absurd h (by omega)
  · have hi' : i < 29 := hi
    match i, hi' with
    | 0, _ => exact hP 0 _ rfl
    | 1, _ => exact hP 1 _ rfl
    | 2, _ => exact hP 2 _ rfl
    | 3, _ =>
      have h9 : H[b2]? = some (vp_cell (Ac 3) (6, .inr (.inr (.inr (.inr (fun k => some (r2 k))))))) := hP 3 _ rfl
      show H[b2]? = some (vp_cell (Ac 3) (6, .inr (.inr (.inr (.inr (fun k => some _))))))
      rw [h9, vp_cell_q, vp_cell_q]
      refine congrArg some (arrV_cg (fun k hk => ?_))
      match k, hk with
      | 0, _ => rfl
      | 1, _ => rfl
      | 2, _ => rfl
      | 3, _ => rfl
      | 4, _ => rfl
      | 5, _ => rfl
    | 4, _ => exact hP 4 _ rfl
    | 5, _ => exact hP 5 _ rfl
    | 6, _ => exact hP 6 _ rfl
    | 7, _ => exact hP 7 _ rfl
    | 8, _ => exact hP 8 _ rfl
    | 9, _ => exact hP 9 _ rfl
    | 10, _ =>
      have h9 : H[b3]? = some (vp_cell (Ac 3) (8, .inr (.inr (.inr (.inr (fun k => some (r3 k))))))) := hP 10 _ rfl
      show H[b3]? = some (vp_cell (Ac 3) (8, .inr (.inr (.inr (.inr (fun k => some _))))))
      rw [h9, vp_cell_q, vp_cell_q]
      refine congrArg some (arrV_cg (fun k hk => ?_))
      match k, hk with
      | 0, _ => rfl
      | 1, _ => rfl
      | 2, _ => rfl
      | 3, _ => rfl
      | 4, _ => rfl
      | 5, _ => rfl
      | 6, _ => rfl
      | 7, _ => rfl
    | 11, _ => exact hP 11 _ rfl
    | 12, _ => exact hP 12 _ rfl
    | 13, _ => exact hP 13 _ rfl
    | 14, _ => exact hP 14 _ rfl
    | 15, _ => exact hP 15 _ rfl
    | 16, _ => exact hP 16 _ rfl
    | 17, _ => exact hP 17 _ rfl
    | 18, _ => exact hP 18 _ rfl
    | 19, _ => exact hP 20 _ rfl
    | 20, _ => exact hP 21 _ rfl
    | 21, _ => exact hP 22 _ rfl
    | 22, _ => exact hP 23 _ rfl
    | 23, _ => exact hP 24 _ rfl
    | 24, _ => exact hP 25 _ rfl
    | 25, _ => exact hP 26 _ rfl
    | 26, _ => exact hP 27 _ rfl
    | 27, _ => exact hP 28 _ rfl
    | 28, _ => exact hP 49 _ rfl
    | n + 29, h => exact absurd h (by omega)
  · exact hP 19 _ rfl
  · have hi' : i < 20 := hi
    match i, hi' with
    | 0, _ => exact hP 29 _ rfl
    | 1, _ => exact hP 30 _ rfl
    | 2, _ => exact hP 31 _ rfl
    | 3, _ => exact hP 32 _ rfl
    | 4, _ => exact hP 33 _ rfl
    | 5, _ => exact hP 34 _ rfl
    | 6, _ => exact hP 35 _ rfl
    | 7, _ => exact hP 36 _ rfl
    | 8, _ => exact hP 37 _ rfl
    | 9, _ => exact hP 38 _ rfl
    | 10, _ => exact hP 39 _ rfl
    | 11, _ => exact hP 40 _ rfl
    | 12, _ => exact hP 41 _ rfl
    | 13, _ => exact hP 42 _ rfl
    | 14, _ => exact hP 43 _ rfl
    | 15, _ => exact hP 44 _ rfl
    | 16, _ => exact hP 45 _ rfl
    | 17, _ => exact hP 46 _ rfl
    | 18, _ => exact hP 47 _ rfl
    | 19, _ => exact hP 48 _ rfl
    | n + 20, h => exact absurd h (by omega)
theorem start_dj {G : va_G} {Ac : Nat → ClassId} {ad am : Nat → Nat} {ws : va_W} {base : Nat} (h1 : ∀ n, n < 29 ∨ n = 40 → ∃ e, ws[ixC n]? = some (ad n, e)) (h2 : ∀ i, i < 20 → ∃ e, ws[29 + i]? = some (am i, e)) (hD : va_D (bA base) ws) : DJ (G, Ac, ad) am iN base := by
  refine ⟨⟨fun m n a hm hn => ?_, fun n a hn => ?_⟩, ⟨fun i j hi hj e => ?_, fun i hi => ?_⟩, fun n a i hn hi e => ?_⟩
  · obtain ⟨a1, a2⟩ := adx_iN hm
    obtain ⟨b1, b2⟩ := adx_iN hn
    obtain ⟨e1, c1⟩ := h1 m a1
    obtain ⟨e2, c2⟩ := h1 n b1
    have := hD.1 _ _ _ _ c1 c2 (a2.symm.trans b2)
    unfold ixC at this
    repeat' split at this
    all_goals omega
  · obtain ⟨a1, a2⟩ := adx_iN hn
    obtain ⟨e1, c1⟩ := h1 n a1
    rw [a2]
    exact hD.2 _ _ c1
  · obtain ⟨e1, c1⟩ := h2 i hi
    obtain ⟨e2, c2⟩ := h2 j hj
    have := hD.1 _ _ _ _ c1 c2 e
    omega
  · obtain ⟨e1, c1⟩ := h2 i hi
    exact hD.2 _ _ c1
  · obtain ⟨a1, a2⟩ := adx_iN hn
    obtain ⟨e1, c1⟩ := h1 n a1
    obtain ⟨e2, c2⟩ := h2 i hi
    have := hD.1 _ _ _ _ c2 c1 (e.trans a2)
    unfold ixC at this
    repeat' split at this
    all_goals omega
theorem Rl0 : Rl (JI iN) zSt zSt := by
  refine ⟨0, 0, fun _ => 0, fun _ _ => 0, fun _ _ => false, 0, zSt, ⟨by omega, by omega, fun c hc => absurd hc (by omega), fun c r hc => absurd hc (by omega), fun m r hm h => by cases h⟩, ⟨⟨by omega, rfl⟩, rfl, rfl, fun c hc => absurd hc (by omega), fun c r hc => absurd hc (by omega), fun m r hm hr => lb_0 _⟩, ⟨rfl, rfl, rfl, fun c hc => absurd hc (by omega), fun c r hc => absurd hc (by omega), fun c r hc => absurd hc (by omega), fun m r hm hr => rfl, fun i hi => ⟨rfl, rfl⟩⟩, fun x hx => rfl⟩
