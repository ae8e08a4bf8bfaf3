/-! ===== the numbers under a mask, as lists ===== -/
def gl (p : Nat → Bool) (f : Nat → Int64) : Nat → List (Nat × Int64)
  | 0 => []
  | i + 1 => gl p f i ++ (if p i = true then [(i, f i)] else [])
theorem gl_len (p : Nat → Bool) (f : Nat → Int64) : ∀ i, (gl p f i).length = fb_ct p i
  | 0 => rfl
  | i + 1 => by
    rw [gl, List.length_append, gl_len p f i, fb_ct_succ]
    cases p i <;> rfl
theorem gl_mem {p : Nat → Bool} {f : Nat → Int64} {x : Nat × Int64} : ∀ {i}, x ∈ gl p f i ↔ x.1 < i ∧ p x.1 = true ∧ x.2 = f x.1
  | 0 => ⟨fun h => (by cases h), fun h => absurd h.1 (by omega)⟩
  | i + 1 => by
    rw [gl, List.mem_append, gl_mem]
    constructor
    · rintro (h | h)
      · exact ⟨by omega, h.2⟩
      · by_cases e : p i = true
        · rw [if_pos e] at h
          have := List.mem_singleton.mp h
          subst this
          exact ⟨by show i < i + 1; omega, e, rfl⟩
        · rw [if_neg e] at h; cases h
    · rintro ⟨h1, h2, h3⟩
      by_cases e : x.1 = i
      · right
        rw [← e, if_pos h2, List.mem_singleton]
        exact Prod.ext rfl h3
      · left; exact ⟨by omega, h2, h3⟩
/-- the class's picked rows and numbers -/
def Pk (σ : St) (l : List (Nat × Int64)) : Prop := σ.1 19 0 = nI l.length ∧ l.length ≤ 192 ∧ ∀ i x, l[i]? = some x → σ.1 20 i = nI x.1 ∧ σ.2 21 i = x.2
theorem Pk.take {σ : St} {l : List (Nat × Int64)} (h : Pk σ l) (hl : l.length < 192) (r : Nat) (v : Int64) : wp (c_X0_take σ (nI r) v) (fun τ => Pk τ (l ++ [(r, v)]) ∧ ∀ j, j ≠ 19 → j ≠ 20 → j ≠ 21 → τ.1 j = σ.1 j ∧ τ.2 j = σ.2 j) := by
  unfold c_X0_take
  rw [h.1, if_neg (show ¬ (192 : Int32) ≤ nI l.length from nI_ge (b := 192) hl (by decide)), ix192 hl, Option.bind_some, sIn (Or.inl (by decide)), h.1, ix192 hl, Option.bind_some, Option.bind_some]
  refine wp_some ⟨⟨?_, by rw [List.length_append]; exact hl, fun i x hx => ?_⟩, fun j h1 h2 h3 => ⟨?_, ?_⟩⟩
  · rw [sIs, sL1, sIn (Or.inl (by decide)), h.1, nI_s, List.length_append]; rfl
  · rw [sIn (Or.inl (by decide)), sL1, sI2, sI1, sL2, sI2]
    by_cases e : i = l.length
    · subst e
      rw [List.getElem?_append_right (Nat.le_refl _), Nat.sub_self] at hx
      have : (r, v) = x := by simpa using hx
      subst this
      rw [if_pos ⟨rfl, rfl⟩, if_pos ⟨rfl, rfl⟩]
      exact ⟨rfl, rfl⟩
    · have hlt : i < l.length := by
        have := (List.getElem?_eq_some_iff.mp hx).1
        rw [List.length_append] at this
        have h4 : [(r, v)].length = 1 := rfl
        omega
      rw [List.getElem?_append_left hlt] at hx
      rw [if_neg (fun q => e q.2), if_neg (fun q => e q.2)]
      exact h.2.2 i x hx
  · rw [sI_ne h1, sL1, sI_ne h2]
  · rw [sI2, sL_ne h3, sI2]
section LST
variable {n k : Nat} {w : Nat → Nat} {C : Nat → Nat → Int64} {M : Nat → Nat → Bool} {q : Int32} {σ τ u u' J : St} {c r m : Nat} {I : Ims} {tbl : List String}
theorem rc_19 (h : RC n k w C M q σ) (hf : ∀ j, j ≠ 19 → j ≠ 20 → j ≠ 21 → τ.1 j = σ.1 j ∧ τ.2 j = σ.2 j) : RC n k w C M q τ := h.of fun j hj => hf j (by omega) (by omega) (by omega)
theorem gather_wp (h : RC n k w C M q σ) (hW : Wf n k w C M) (hc : c < k) (hm : m < 8) : wp (c_X3_gather σ (nI c) (nI m)) (fun τ => RC n k w C M q τ ∧ Pk τ (gl (fun r => C c r != ((-9223372036854775808) : Int64) && M m r) (C c) n)) := by
  unfold c_X3_gather
  rw [show c_X0_restart σ = some (sI σ 19 0 0) from rfl, Option.bind_some]
  have hc6 := hW.c6 hc
  refine wp_bm (Q := fun τ => RC n k w C M q τ ∧ Pk τ (gl (fun r => C c r != ((-9223372036854775808) : Int64) && M m r) (C c) n)) (wp_lp n (fun i (z : Int32 × St) => z.1 = nI i ∧ RC n k w C M q z.2 ∧ Pk z.2 (gl (fun r => C c r != ((-9223372036854775808) : Int64) && M m r) (C c) i)) hW.n5 ⟨rfl, h.sI (by decide), ⟨sIs, Nat.zero_le _, fun i x hx => by cases hx⟩⟩ (fun i z hi hJ => ?_) (fun z hJ => ?_)) (fun τ h => wp_some h)
  · obtain ⟨z1, τ⟩ := z
    obtain ⟨hz, h1, h2⟩ := hJ
    simp only at hz h1 h2
    subst hz
    have hi2 := hW.r192 hi
    have hl : (gl (fun r => C c r != ((-9223372036854775808) : Int64) && M m r) (C c) i).length < 192 := by
      rw [gl_len]
      have := fb_ct_le (fun r => C c r != ((-9223372036854775808) : Int64) && M m r) i
      omega
    simp only [h1.rows, if_neg (ltL n hW.n31 hi), isNumbered_eq h1 hW hc hi hm, Option.bind_some, if_bI]
    by_cases e : (C c i != ((-9223372036854775808) : Int64) && M m i) = true
    · rw [if_pos e, ix6 hc6, Option.bind_some, ix192 hi2, Option.bind_some, h1.cell hc hi, nI_s i]
      obtain ⟨τ2, e2, h3, h4⟩ := h2.take hl i (C c i)
      rw [e2, Option.bind_some, Option.bind_some]
      refine wp_some ⟨rfl, rc_19 h1 h4, ?_⟩
      rw [gl, if_pos e]
      exact h3
    · rw [if_neg e, Option.bind_some, nI_s i]
      refine wp_some ⟨rfl, h1, ?_⟩
      rw [gl, if_neg e, List.append_nil]
      exact h2
  · obtain ⟨z1, τ⟩ := z
    obtain ⟨hz, h1, h2⟩ := hJ
    simp only at hz h1 h2
    subst hz
    simp only [h1.rows]
    exact wp_eq (if_pos (geL n hW.n31)) ⟨h1, h2⟩
/-- the reference's list -/
def Ls (u : St) (l : List Int64) : Prop := u.1 0 10 = nI l.length ∧ l.length ≤ 192 ∧ ∀ i x, l[i]? = some x → u.2 6 i = x
abbrev leL : Int64 → Int64 → Prop := fun a b => a ≤ b
/-- a number comes into a row that is in order -/
theorem ins_sorted {l : List Int64} {V : Int64} {kk : Nat} (h : l.Pairwise leL) (hk : kk ≤ l.length) (g1 : ∀ x y, kk ≤ x → l[x]? = some y → V ≤ y) (g2 : ∀ x y, x < kk → l[x]? = some y → y ≤ V) : (l.take kk ++ V :: l.drop kk).Pairwise leL := by
  have hd : (l.take kk ++ l.drop kk).Pairwise leL := by rw [List.take_append_drop]; exact h
  rw [List.pairwise_append] at hd ⊢
  refine ⟨hd.1, List.pairwise_cons.mpr ⟨fun b hb => ?_, hd.2.1⟩, fun a ha b hb => ?_⟩
  · obtain ⟨j, hj⟩ := List.mem_iff_getElem?.mp hb
    rw [List.getElem?_drop] at hj
    exact g1 (kk + j) b (by omega) hj
  · rcases List.mem_cons.mp hb with rfl | hb
    · obtain ⟨j, hj⟩ := List.mem_iff_getElem?.mp ha
      rw [List.getElem?_take] at hj
      split at hj
      · exact g2 j a (by assumption) hj
      · cases hj
    · exact hd.2.2 a ha b hb
theorem insert_wp {v : St} {l : List Int64} {V : Int64} {f : Int32 × St → Option ((Int32 × St) ⊕ (Int32 × St))} (hl : l.length < 192) (h3 : l.Pairwise leL) (h2 : ∀ i x, l[i]? = some x → v.2 6 i = x) (hs : ∀ j v', j + 1 < 192 → f (nI (j + 1), v') = if v'.2 6 j ≤ V then some (.inr (nI (j + 1), v')) else some (.inl (nI j, sL v' 6 (j + 1) (v'.2 6 j)))) (hx : ∀ v', f (nI 0, v') = some (.inr (nI 0, v'))) : wp (lp 5000 f (nI l.length, v)) (fun z => ∃ kk, z.1 = nI kk ∧ kk ≤ l.length ∧ Oc 6 v z.2 ∧ (∀ x y, x < kk → l[x]? = some y → z.2.2 6 x = y ∧ y ≤ V) ∧ ∀ x y, kk ≤ x → l[x]? = some y → z.2.2 6 (x + 1) = y ∧ V ≤ y) := by
  refine wp_lp l.length (fun j (z : Int32 × St) => z.1 = nI (l.length - j) ∧ Oc 6 v z.2 ∧ (∀ x y, x < l.length - j → l[x]? = some y → z.2.2 6 x = y) ∧ ∀ x y, l.length - j ≤ x → l[x]? = some y → z.2.2 6 (x + 1) = y ∧ V ≤ y) (by omega) ⟨rfl, Oc.rf, fun x y _ e => h2 x y e, fun x y hx e => absurd (List.getElem?_eq_some_iff.mp e).1 (by omega)⟩ (fun j z hj hJ => ?_) (fun z hJ => ?_)
  · obtain ⟨z1, v'⟩ := z
    obtain ⟨e1, g1, g2, g3⟩ := hJ
    simp only at e1 g1 g2 g3
    subst e1
    have hlt : l.length - j - 1 < l.length := by omega
    have el : l[l.length - j - 1]? = some l[l.length - j - 1] := List.getElem?_eq_getElem hlt
    have ev := g2 (l.length - j - 1) _ (by omega) el
    have := hs (l.length - j - 1) v' (by omega)
    rw [show l.length - j - 1 + 1 = l.length - j by omega] at this
    rw [this, ev]
    by_cases q : l[l.length - j - 1] ≤ V
    · rw [if_pos q]
      refine wp_some ⟨l.length - j, rfl, by omega, g1, fun x y hx e => ⟨g2 x y hx e, ?_⟩, g3⟩
      by_cases ex : x = l.length - j - 1
      · subst ex
        rw [el] at e
        cases e
        exact q
      · have hxl := (List.getElem?_eq_some_iff.mp e)
        have h5 := List.pairwise_iff_getElem.mp h3 x (l.length - j - 1) hxl.1 hlt (by omega)
        rw [hxl.2] at h5
        have h6 : y ≤ l[l.length - j - 1] := h5
        rw [fa_le64] at h6 q ⊢
        omega
    · rw [if_neg q]
      refine wp_some ⟨by show nI (l.length - j - 1) = nI (l.length - (j + 1)); rw [Nat.sub_sub], g1.sL, fun x y hx e => ?_, fun x y hx e => ?_⟩
      · show (sL v' 6 (l.length - j) _).2 6 x = y
        rw [sLn (by omega)]
        exact g2 x y (by omega) e
      · show (sL v' 6 (l.length - j) _).2 6 (x + 1) = y ∧ _
        by_cases ex : x = l.length - j - 1
        · subst ex
          rw [el] at e
          cases e
          rw [show l.length - j - 1 + 1 = l.length - j by omega, sLs]
          refine ⟨rfl, ?_⟩
          rw [fa_le64] at q ⊢
          omega
        · rw [sLn (by omega)]
          exact g3 x y (by omega) e
  · obtain ⟨z1, v'⟩ := z
    obtain ⟨e1, g1, g2, g3⟩ := hJ
    simp only at e1 g1 g2 g3
    subst e1
    rw [Nat.sub_self] at g2 g3 ⊢
    exact wp_eq (hx v') ⟨0, rfl, Nat.zero_le _, g1, fun x y hx => absurd hx (by omega), g3⟩
theorem lists_wp (h : RM n k w C M q J u) (hW : Wf n k w C M) (hc : c < k) (hm : m < 8) (ht : u.1 0 0 = 0) : wp (m_X4_lists u (nI c) (nI m)) (fun v => RM n k w C M q J v ∧ v.1 0 0 = 0 ∧ ∃ l, Ls v l ∧ l.Pairwise leL ∧ l.Perm ((gl (fun r => C c r != ((-9223372036854775808) : Int64) && M m r) (C c) n).map Prod.snd)) := by
  unfold m_X4_lists
  have hc6 := hW.c6 hc
  refine wp_bm (Q := fun v => RM n k w C M q J v ∧ v.1 0 0 = 0 ∧ ∃ l, Ls v l ∧ l.Pairwise leL ∧ l.Perm ((gl (fun r => C c r != ((-9223372036854775808) : Int64) && M m r) (C c) n).map Prod.snd)) (wp_lp n (fun i (z : Int32 × St) => z.1 = nI i ∧ RM n k w C M q J z.2 ∧ z.2.1 0 0 = 0 ∧ ∃ l, Ls z.2 l ∧ l.Pairwise leL ∧ l.Perm ((gl (fun r => C c r != ((-9223372036854775808) : Int64) && M m r) (C c) i).map Prod.snd)) hW.n5 ⟨rfl, h.sI0 (Or.inr (by decide)), by rw [sIn (by omega)]; exact ht, [], ⟨sIs, Nat.zero_le _, fun i x hx => by cases hx⟩, List.Pairwise.nil, List.Perm.refl _⟩ (fun i z hi hJ => ?_) (fun z hJ => ?_)) (fun τ h => wp_some h)
  · obtain ⟨z1, v⟩ := z
    obtain ⟨hz, h1, h0, l, h2, h3, h4⟩ := hJ
    simp only at hz h1 h0 h2
    subst hz
    have hi2 := hW.r192 hi
    simp only [h1.rows, if_neg (ltL n hW.n31 hi), hasUnder_eq h1 hW hc hi2 hm, Option.bind_some, if_bI]
    by_cases e : (C c i != ((-9223372036854775808) : Int64) && M m i) = true
    · have hN := nbN (Bool.and_eq_true_iff.mp e).1
      have hl : l.length < 192 := by
        have h5 := h4.length_eq
        rw [List.length_map, gl_len] at h5
        have := fb_ct_le (fun r => C c r != ((-9223372036854775808) : Int64) && M m r) i
        omega
      rw [if_pos e, at_eq, Option.bind_some, ixA hc6 hi2, Option.bind_some, h1.cell hc hi hN, h2.1, nI_s i]
      refine wp_bm (Q := fun t => RM n k w C M q J t ∧ t.1 0 0 = 0 ∧ ∃ l', Ls t l' ∧ l'.Pairwise leL ∧ l'.Perm ((gl (fun r => C c r != ((-9223372036854775808) : Int64) && M m r) (C c) (i + 1)).map Prod.snd)) (wp_bm (insert_wp (V := C c i) hl h3 h2.2.2 (fun j v' hj => ?_) (fun v' => ?_)) (fun z hz => ?_)) (fun t ht => wp_some ⟨rfl, ht⟩)
      · have hj2 : j < 192 := by omega
        simp only [if_neg (show ¬ nI (j + 1) ≤ 0 from nI_nle (by omega) (by omega)), nI_pred, pk_m1, ix192 hj2, ix192 hj, Option.bind_some]
      · exact if_pos (show nI 0 ≤ 0 by decide)
      · obtain ⟨z1, v2⟩ := z
        obtain ⟨kk, e1, g0, g1, g2, g3⟩ := hz
        simp only at e1 g1 g2 g3
        subst e1
        have e10 : v2.1 0 10 = nI l.length := by rw [(g1 0 (by decide)).1]; exact h2.1
        rw [ix192 (show kk < 192 by omega), Option.bind_some, sL1, e10, nI_s]
        have hlen : (l.take kk ++ C c i :: l.drop kk).length = l.length + 1 := by
          rw [List.length_append, List.length_cons, List.length_take, List.length_drop]
          omega
        refine wp_some ⟨((h1.oc (i := 6) (by decide) g1).sLx (by decide) (by decide)).sI0 (Or.inr (by decide)), ?_, l.take kk ++ C c i :: l.drop kk, ⟨by rw [hlen]; exact sIs, by rw [hlen]; omega, fun x y hx => ?_⟩, ins_sorted h3 g0 (fun x y a b => (g3 x y a b).2) (fun x y a b => (g2 x y a b).2), ?_⟩
        · rw [sIn (by omega), sL1, (g1 0 (by decide)).1]; exact h0
        · rw [sI2, sL2]
          by_cases ex : x = kk
          · subst ex
            rw [if_pos ⟨rfl, rfl⟩]
            rw [List.getElem?_append_right (by rw [List.length_take]; omega), List.length_take, show x - min x l.length = 0 by omega] at hx
            exact Option.some.inj hx
          · rw [if_neg (fun q => ex q.2)]
            by_cases hlt : x < kk
            · rw [List.getElem?_append_left (by rw [List.length_take]; omega), List.getElem?_take, if_pos hlt] at hx
              exact (g2 x y hlt hx).1
            · rw [List.getElem?_append_right (by rw [List.length_take]; omega), List.length_take, show x - min kk l.length = (x - kk - 1) + 1 by omega, List.getElem?_cons_succ, List.getElem?_drop, show kk + (x - kk - 1) = x - 1 by omega] at hx
              have := (g3 (x - 1) y (by omega) hx).1
              rwa [show x - 1 + 1 = x by omega] at this
        · rw [gl, if_pos e, List.map_append]
          refine List.Perm.trans List.perm_middle ?_
          rw [List.take_append_drop]
          exact (List.Perm.cons _ h4).trans (List.perm_append_singleton _ _).symm
    · rw [if_neg e, Option.bind_some, nI_s i]
      refine wp_some ⟨rfl, h1, h0, l, h2, h3, ?_⟩
      rw [gl, if_neg e, List.append_nil]
      exact h4
  · obtain ⟨z1, v⟩ := z
    obtain ⟨hz, h1, h0, h2⟩ := hJ
    simp only at hz h1 h0 h2
    subst hz
    simp only [h1.rows]
    exact wp_eq (if_pos (geL n hW.n31)) ⟨h1, h0, h2⟩
end LST
