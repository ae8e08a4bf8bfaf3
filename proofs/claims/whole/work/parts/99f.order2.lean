/-! ===== all rows put in order ===== -/
theorem cpn_eq {N : Nat} (h : N ≤ 192) : cpn (nI N) 192 192 = some N := by
  unfold cpn
  rw [nI_clamp (by omega), if_neg]
  rintro (h1 | h1 | h1)
  · exact nI_pos (by omega) h1
  · omega
  · omega
section PIP
variable {σ τ : St} {L A L0 : List (Nat × Int64)} {f : Bool}
def oF (σ τ : St) : Prop := ∀ j, j < 20 ∨ 24 ≤ j → τ.1 j = σ.1 j ∧ τ.2 j = σ.2 j
theorem take1 {R : Nat × Int64 → Nat × Int64 → Prop} (l : List (Nat × Int64)) : (l.take 1).Pairwise R := by
  cases l with
  | nil => exact List.Pairwise.nil
  | cons a l => exact List.pairwise_singleton _ _
def oQ (f : Bool) (σ : St) (L : List (Nat × Int64)) (p : Int32 × St) : Prop := p.1 = nI (iv (leP f) L) ∧ (∃ L', Pk p.2 L' ∧ L'.Perm L ∧ L'.Pairwise (stR f)) ∧ oF σ p.2
theorem order_end {T : Nat} {ln : Nat} {L' : List (Nat × Int64)} (h0 : 0 < ln) (h1 : Pk τ L') (h2 : pI f L ln L') (h3 : T + iv (leP f) L' = iv (leP f) L) (h4 : oF σ τ) (hl : L'.length ≤ ln) : oQ f σ L (nI T, τ) := by
  have hs := h2.2.1 0 (Nat.dvd_zero _)
  rw [List.drop_zero, List.take_of_length_le hl] at hs
  rw [iv_sorted (stR_le hs), Nat.add_zero] at h3
  exact ⟨by rw [h3], ⟨L', h1, h2.perm h0, hs⟩, h4⟩
theorem order_wp (f : Bool) (hP : Pk σ L) (hA : rAsc L) : wp (c_X0_putInOrder σ (bI f)) (oQ f σ L) := by
  unfold c_X0_putInOrder
  have h192 := hP.2.1
  refine wp_bm (Q := oQ f σ L) (wp_lp 8 (fun t (z : Int32 × Int32 × St) => ∃ T L' τ, z = (nI T, nI (2 ^ t), τ) ∧ Pk τ L' ∧ pI f L (2 ^ t) L' ∧ T + iv (leP f) L' = iv (leP f) L ∧ oF σ τ) (by decide) ⟨0, L, σ, rfl, hP, ⟨fun x _ => List.Perm.refl _, fun x _ => take1 _, rfl⟩, Nat.zero_add _, fun _ _ => ⟨rfl, rfl⟩⟩ (fun t z ht hJ => ?_) (fun z hJ => ?_)) (fun p hp => wp_some hp)
  · obtain ⟨T, L', τ, rfl, h1, h2, h3, h4⟩ := hJ
    have hl : L'.length = L.length := h2.2.2
    have h0 : 0 < 2 ^ t := Nat.two_pow_pos t
    have h256 : 2 ^ t < 256 := Nat.lt_of_lt_of_le (Nat.pow_lt_pow_right (by decide) ht) (by decide)
    show wp (if τ.1 19 0 ≤ nI (2 ^ t) then _ else _) _
    rw [h1.1]
    by_cases e : L'.length ≤ 2 ^ t
    · rw [if_pos (nI_le e (by omega))]
      exact wp_some (order_end h0 h1 h2 h3 h4 e)
    · rw [if_neg (ltL _ (by omega) (by omega))]
      obtain ⟨p, ep, c, A, q1, q2, q3, q4, q5, q6⟩ := pass_wp (T := T) (σ := τ) h2 h0 (by omega) hA h1
      have e19 : p.2.1 19 0 = nI A.length := by rw [(q6 19 (by decide) (by decide)).1, h1.1, q5]
      have hAl : A.length ≤ 192 := by omega
      refine ⟨Sum.inl (nI (T + c), nI (2 ^ (t + 1)), cpL (cpI p.2 22 20 A.length) 23 21 A.length), ?_, T + c, A, _, rfl, ⟨?_, hAl, fun i x hx => ?_⟩, ?_, by omega, fun j hj => ?_⟩
      · show (lp 5000 _ _).bind _ = _
        rw [ep, Option.bind_some, e19, cpn_eq hAl, Option.bind_some]
        show (cpn (p.2.1 19 0) 192 192).bind _ = _
        rw [e19, cpn_eq hAl, Option.bind_some, q1]
        show some (Sum.inl (nI (T + c), nI (2 ^ t) + nI (2 ^ t), _)) = _
        rw [nI_add, show 2 ^ t + 2 ^ t = 2 ^ (t + 1) by rw [Nat.pow_succ]; omega]
      · exact e19
      · have hi := (List.getElem?_eq_some_iff.mp hx).1
        refine ⟨?_, ?_⟩
        · show (if 20 = 20 ∧ i < A.length then p.2.1 22 i else _) = _
          rw [if_pos ⟨rfl, hi⟩]; exact (q2 i x hx).1
        · show (if 21 = 21 ∧ i < A.length then p.2.2 23 i else _) = _
          rw [if_pos ⟨rfl, hi⟩]; exact (q2 i x hx).2
      · rw [Nat.pow_succ, Nat.mul_comm]; exact q3
      · have h5 := h4 j hj
        have h6 := q6 j (by omega) (by omega)
        refine ⟨?_, ?_⟩
        · refine Eq.trans (funext fun b => ?_) (h6.1.trans h5.1)
          show (if j = 20 ∧ b < A.length then _ else p.2.1 j b) = _
          rw [if_neg (by omega)]
        · refine Eq.trans (funext fun b => ?_) (h6.2.trans h5.2)
          show (if j = 21 ∧ b < A.length then _ else p.2.2 j b) = _
          rw [if_neg (by omega)]
  · obtain ⟨T, L', τ, rfl, h1, h2, h3, h4⟩ := hJ
    have hl : L'.length = L.length := h2.2.2
    show wp (if τ.1 19 0 ≤ nI (2 ^ 8) then _ else _) _
    rw [h1.1, if_pos (nI_le (show L'.length ≤ 2 ^ 8 by omega) (by decide))]
    exact wp_some (order_end (by decide) h1 h2 h3 h4 (show L'.length ≤ 2 ^ 8 by omega))
theorem gl_asc (p : Nat → Bool) (g : Nat → Int64) : ∀ i, rAsc (gl p g i)
  | 0 => List.Pairwise.nil
  | i + 1 => by
    unfold rAsc
    rw [gl, List.pairwise_append]
    refine ⟨gl_asc p g i, ?_, fun x hx y hy => ?_⟩
    · by_cases e : p i = true
      · rw [if_pos e]; exact List.pairwise_singleton _ _
      · rw [if_neg e]; exact List.Pairwise.nil
    · by_cases e : p i = true
      · rw [if_pos e] at hy
        have := List.mem_singleton.mp hy
        subst this
        exact (gl_mem.mp hx).1
      · rw [if_neg e] at hy; cases hy
/-- the numbers of a row in order are the reference's list -/
theorem nums_eq {L' : List (Nat × Int64)} {l : List Int64} (h1 : L'.Perm L) (h2 : L'.Pairwise (stR false)) (h3 : l.Pairwise leL) (h4 : l.Perm (L.map Prod.snd)) : L'.map Prod.snd = l := by
  refine List.Perm.eq_of_pairwise (le := leL) (fun a b _ _ g1 g2 => ?_) ?_ h3 ((h1.map _).trans h4.symm)
  · rw [leL, fa_le64] at g1 g2
    exact Int64.toInt.inj (by omega)
  · rw [List.pairwise_map]
    refine h2.imp fun {a b} h => ?_
    have := (leP_iff false a b).mp h.1
    rw [if_neg (by decide)] at this
    rw [leL, fa_le64]
    exact this
end PIP
section PIR
variable {n k : Nat} {w : Nat → Nat} {C : Nat → Nat → Int64} {M : Nat → Nat → Bool} {q : Int32} {σ τ u J : St} {c m : Nat}
theorem RC.oF (h : RC n k w C M q σ) (hf : oF σ τ) : RC n k w C M q τ := h.of fun j hj => hf j (Or.inl (by omega))
/-- numbers under a mask, in order, on both sides -/
theorem sorted_wp (h : RC n k w C M q σ) (hW : Wf n k w C M) (hc : c < k) (hm : m < 8) (f : Bool) : wp ((c_X3_gather σ (nI c) (nI m)).bind fun v => c_X0_putInOrder v (bI f)) (fun p => p.1 = nI (iv (leP f) (gl (fun r => C c r != ((-9223372036854775808) : Int64) && M m r) (C c) n)) ∧ RC n k w C M q p.2 ∧ ∃ L', Pk p.2 L' ∧ L'.Perm (gl (fun r => C c r != ((-9223372036854775808) : Int64) && M m r) (C c) n) ∧ L'.Pairwise (stR f)) := by
  refine wp_bm (gather_wp h hW hc hm) (fun τ hτ => ?_)
  exact wp_mono (order_wp f hτ.2 (gl_asc _ _ _)) (fun p hp => ⟨hp.1, hτ.1.oF hp.2.2, hp.2.1⟩)
end PIR
