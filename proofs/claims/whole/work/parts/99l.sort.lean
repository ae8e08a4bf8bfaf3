/-! ===== sort ===== -/
def sR (g : Nat → Int64) (f : Bool) (x y : Nat) : Prop := (g x ≠ ((-9223372036854775808) : Int64) ∧ g y = ((-9223372036854775808) : Int64)) ∨ (g x = ((-9223372036854775808) : Int64) ∧ g y = ((-9223372036854775808) : Int64) ∧ x < y) ∨ (g x ≠ ((-9223372036854775808) : Int64) ∧ g y ≠ ((-9223372036854775808) : Int64) ∧ stR f (x, g x) (y, g y))
def gA (g : Nat → Int64) (f : Bool) (r o : Nat) : Bool := (g r != ((-9223372036854775808) : Int64)) && ((g o == ((-9223372036854775808) : Int64)) || ahd f (g r) (g o))
section SRT
variable {g : Nat → Int64} {f : Bool} {x y z r o : Nat} {l : List Nat}
theorem stR_tr {a b d : Nat × Int64} (h1 : stR f a b) (h2 : stR f b d) : stR f a d :=
  ⟨leP_tr f _ _ _ h1.1 h2.1, fun h => Nat.lt_trans (h1.2 (leP_tr f _ _ _ h2.1 h)) (h2.2 (leP_tr f _ _ _ h h1.1))⟩
theorem sR_tr (h1 : sR g f x y) (h2 : sR g f y z) : sR g f x z := by
  rcases h1 with ⟨a1, a2⟩ | ⟨a1, a2, a3⟩ | ⟨a1, a2, a3⟩
  · rcases h2 with ⟨b1, b2⟩ | ⟨b1, b2, b3⟩ | ⟨b1, b2, b3⟩
    · exact absurd a2 b1
    · exact Or.inl ⟨a1, b2⟩
    · exact absurd a2 b1
  · rcases h2 with ⟨b1, b2⟩ | ⟨b1, b2, b3⟩ | ⟨b1, b2, b3⟩
    · exact absurd a2 b1
    · exact Or.inr (Or.inl ⟨a1, b2, by omega⟩)
    · exact absurd a2 b1
  · rcases h2 with ⟨b1, b2⟩ | ⟨b1, b2, b3⟩ | ⟨b1, b2, b3⟩
    · exact Or.inl ⟨a1, b2⟩
    · exact absurd b1 a2
    · exact Or.inr (Or.inr ⟨a1, b2, stR_tr a3 b3⟩)
theorem sR_as (h1 : sR g f x y) (h2 : sR g f y x) : x = y := by
  rcases h1 with ⟨a1, a2⟩ | ⟨a1, a2, a3⟩ | ⟨a1, a2, a3⟩
  · rcases h2 with ⟨b1, b2⟩ | ⟨b1, b2, b3⟩ | ⟨b1, b2, b3⟩
    · exact absurd a2 b1
    · exact absurd b2 a1
    · exact absurd a2 b1
  · rcases h2 with ⟨b1, b2⟩ | ⟨b1, b2, b3⟩ | ⟨b1, b2, b3⟩
    · exact absurd a2 b1
    · omega
    · exact absurd a2 b1
  · rcases h2 with ⟨b1, b2⟩ | ⟨b1, b2, b3⟩ | ⟨b1, b2, b3⟩
    · exact absurd b2 a1
    · exact absurd b1 a2
    · have h1 := a3.2 b3.1
      have h2 := b3.2 a3.1
      simp only at h1 h2
      omega
theorem gA_t (h : gA g f r o = true) : sR g f r o := by
  unfold gA at h
  rw [Bool.and_eq_true, Bool.or_eq_true] at h
  have hr : g r ≠ ((-9223372036854775808) : Int64) := nbN h.1
  by_cases e : g o = ((-9223372036854775808) : Int64)
  · exact Or.inl ⟨hr, e⟩
  · rcases h.2 with h2 | h2
    · exact absurd (by simpa using h2) e
    · have h3 : ¬ leP f (o, g o) (r, g r) = true := by
        unfold leP
        simp only [h2]
        decide
      exact Or.inr (Or.inr ⟨hr, e, leP_to h3, fun q => absurd q h3⟩)
theorem gA_f (h : gA g f r o = false) (ho : o < r) : sR g f o r := by
  unfold gA at h
  by_cases er : g r = ((-9223372036854775808) : Int64)
  · by_cases eo : g o = ((-9223372036854775808) : Int64)
    · exact Or.inr (Or.inl ⟨eo, er, ho⟩)
    · exact Or.inl ⟨eo, er⟩
  · have h1 : (g r != ((-9223372036854775808) : Int64)) = true := by simp [er]
    rw [h1, Bool.true_and, Bool.or_eq_false_iff] at h
    have eo : g o ≠ ((-9223372036854775808) : Int64) := by
      intro q
      rw [q] at h
      simp at h
    refine Or.inr (Or.inr ⟨eo, er, ?_, fun _ => ho⟩)
    unfold leP
    simp only [h.2]
    rfl
/-- a row comes into an order -/
theorem insO_pw (h : l.Pairwise (sR g f)) {kk : Nat} (hk : kk ≤ l.length) (hlt : ∀ x, x ∈ l → x < r) (h1 : 0 < kk → ∀ y, l[kk - 1]? = some y → gA g f r y = false) (h2 : ∀ x y, kk ≤ x → l[x]? = some y → gA g f r y = true) : (l.take kk ++ r :: l.drop kk).Pairwise (sR g f) := by
  have hd : (l.take kk ++ l.drop kk).Pairwise (sR g f) := by rw [List.take_append_drop]; exact h
  rw [List.pairwise_append] at hd ⊢
  refine ⟨hd.1, List.pairwise_cons.mpr ⟨fun b hb => ?_, hd.2.1⟩, fun a ha b hb => ?_⟩
  · obtain ⟨j, hj⟩ := List.mem_iff_getElem?.mp hb
    rw [List.getElem?_drop] at hj
    exact gA_t (h2 (kk + j) b (by omega) hj)
  · have har : sR g f a r := by
      obtain ⟨j, hj⟩ := List.mem_iff_getElem?.mp ha
      rw [List.getElem?_take] at hj
      split at hj
      · rename_i hjk
        have hlast : kk - 1 < l.length := by omega
        have el : l[kk - 1]? = some l[kk - 1] := List.getElem?_eq_getElem hlast
        have s1 := gA_f (h1 (by omega) _ el) (hlt _ (List.getElem_mem hlast))
        have hj2 := List.getElem?_eq_some_iff.mp hj
        by_cases e : j = kk - 1
        · subst e
          rw [← hj2.2]; exact s1
        · have s2 := List.pairwise_iff_getElem.mp h j (kk - 1) hj2.1 hlast (by omega)
          rw [hj2.2] at s2
          exact sR_tr s2 s1
      · cases hj
    rcases List.mem_cons.mp hb with rfl | hb
    · exact har
    · exact hd.2.2 a ha b hb
theorem insO_wp {v : St} {G : Nat → Bool} {F : Int32 × St → Option ((Int32 × St) ⊕ (Int32 × St))} (hl : l.length < 192) (h2 : ∀ i x, l[i]? = some x → v.1 10 i = nI x) (hs : ∀ j v' x, j + 1 < 192 → Oc 10 v v' → x ∈ l → v'.1 10 j = nI x → F (nI (j + 1), v') = if G x = true then some (.inl (nI j, sI v' 10 (j + 1) (nI x))) else some (.inr (nI (j + 1), v'))) (hx : ∀ v', F (nI 0, v') = some (.inr (nI 0, v'))) : wp (lp 5000 F (nI l.length, v)) (fun z => ∃ kk, z.1 = nI kk ∧ kk ≤ l.length ∧ Oc 10 v z.2 ∧ (∀ x y, x < kk → l[x]? = some y → z.2.1 10 x = nI y) ∧ (0 < kk → ∀ y, l[kk - 1]? = some y → G y = false) ∧ ∀ x y, kk ≤ x → l[x]? = some y → z.2.1 10 (x + 1) = nI y ∧ G y = true) := by
  refine wp_lp l.length (fun j (z : Int32 × St) => z.1 = nI (l.length - j) ∧ Oc 10 v z.2 ∧ (∀ x y, x < l.length - j → l[x]? = some y → z.2.1 10 x = nI y) ∧ ∀ x y, l.length - j ≤ x → l[x]? = some y → z.2.1 10 (x + 1) = nI y ∧ G y = true) (by omega) ⟨rfl, Oc.rf, fun x y _ e => h2 x y e, fun x y hx e => absurd (List.getElem?_eq_some_iff.mp e).1 (by omega)⟩ (fun j z hj hJ => ?_) (fun z hJ => ?_)
  · obtain ⟨z1, v'⟩ := z
    obtain ⟨e1, g1, g2, g3⟩ := hJ
    simp only at e1 g1 g2 g3
    subst e1
    have hlt : l.length - j - 1 < l.length := by omega
    have el : l[l.length - j - 1]? = some l[l.length - j - 1] := List.getElem?_eq_getElem hlt
    have ev := g2 (l.length - j - 1) _ (by omega) el
    have := hs (l.length - j - 1) v' _ (by omega) g1 (List.getElem_mem hlt) ev
    rw [show l.length - j - 1 + 1 = l.length - j by omega] at this
    rw [this]
    by_cases q : G l[l.length - j - 1] = true
    · rw [if_pos q]
      refine wp_some ⟨by show nI (l.length - j - 1) = nI (l.length - (j + 1)); rw [Nat.sub_sub], g1.sI, fun x y hx e => ?_, fun x y hx e => ?_⟩
      · show (sI v' 10 (l.length - j) _).1 10 x = nI y
        rw [sIn (by omega)]
        exact g2 x y (by omega) e
      · show (sI v' 10 (l.length - j) _).1 10 (x + 1) = nI y ∧ _
        by_cases ex : x = l.length - j - 1
        · subst ex
          rw [el] at e
          cases e
          rw [show l.length - j - 1 + 1 = l.length - j by omega, sIs]
          exact ⟨rfl, q⟩
        · rw [sIn (by omega)]
          exact g3 x y (by omega) e
    · rw [if_neg q]
      refine wp_some ⟨l.length - j, rfl, by omega, g1, g2, fun _ y e => ?_, g3⟩
      rw [el] at e
      cases e
      exact Bool.not_eq_true _ |>.mp q
  · obtain ⟨z1, v'⟩ := z
    obtain ⟨e1, g1, g2, g3⟩ := hJ
    simp only at e1 g1 g2 g3
    subst e1
    rw [Nat.sub_self] at g2 g3 ⊢
    exact wp_eq (hx v') ⟨0, rfl, Nat.zero_le _, g1, fun x y hx => absurd hx (by omega), fun h => absurd h (by omega), g3⟩
end SRT
section SR2
variable {n k : Nat} {w : Nat → Nat} {C : Nat → Nat → Int64} {M : Nat → Nat → Bool} {q : Int32} {σ u J : St} {c r o : Nat} {l : List Nat}
theorem goesAhead_eq (hM : RM n k w C M q J u) (hW : Wf n k w C M) (hc : c < k) (hr : r < n) (ho : o < n) (f : Bool) : m_X4_goesAhead u (nI c) (nI r) (nI o) (bI f) = some (bI (gA (C c) f r o)) := by
  have hc6 := hW.c6 hc
  have hr2 := hW.r192 hr
  have ho2 := hW.r192 ho
  unfold m_X4_goesAhead gA
  rw [at_eq, Option.bind_some, ixA hc6 hr2, Option.bind_some, hM.has' hW hc hr, if_bI]
  by_cases er : C c r = ((-9223372036854775808) : Int64)
  · rw [if_neg (by simp [er]), Option.bind_some, ixA hc6 hr2, Option.bind_some, hM.has' hW hc hr, if_bI, if_neg (by simp [er]), Option.bind_some]
    simp [er, nz, bI]
  · have h1 : (C c r != ((-9223372036854775808) : Int64)) = true := by simp [er]
    rw [if_pos h1, at_eq, Option.bind_some, ixA hc6 ho2, Option.bind_some, hM.has' hW hc ho, if_bI, h1, Bool.true_and]
    by_cases eo : C c o = ((-9223372036854775808) : Int64)
    · have h2 : (C c o != ((-9223372036854775808) : Int64)) = false := by simp [eo]
      rw [if_neg (by rw [h2]; decide), Option.bind_some, ixA hc6 hr2, Option.bind_some, hM.has' hW hc hr, if_bI, if_pos h1, Option.bind_some, ixA hc6 ho2, Option.bind_some, hM.has' hW hc ho, if_bI, h2, if_neg (by decide), Option.bind_some]
      simp [eo, nz, bI]
    · have h2 : (C c o != ((-9223372036854775808) : Int64)) = true := by simp [eo]
      have h3 : (C c o == ((-9223372036854775808) : Int64)) = false := by simp [eo]
      rw [if_pos h2, Option.bind_some, ixA hc6 hr2, Option.bind_some, Option.bind_some, ixA hc6 ho2, Option.bind_some, hM.cell hc hr er, hM.cell hc ho eo, h3, Bool.false_or]
      unfold ahd
      cases f
      · rw [if_pos (show bI false = 0 from rfl), s01, Option.bind_some, nz_bI]; rfl
      · rw [if_neg (show ¬ bI true = 0 by decide), s01, Option.bind_some, nz_bI]; rfl
end SR2
