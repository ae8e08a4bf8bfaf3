/-! ===== rows in an order, on both sides ===== -/
def rs (p : Nat → Bool) : Nat → List Nat
  | 0 => []
  | i + 1 => rs p i ++ (if p i = true then [i] else [])
theorem rs_len (p : Nat → Bool) : ∀ i, (rs p i).length = fb_ct p i
  | 0 => rfl
  | i + 1 => by
    rw [rs, List.length_append, rs_len p i, fb_ct_succ]
    cases p i <;> rfl
theorem rs_lt {p : Nat → Bool} {r : Nat} : ∀ {i}, r ∈ rs p i → r < i
  | 0, h => by cases h
  | i + 1, h => by
    rw [rs, List.mem_append] at h
    rcases h with h | h
    · have := rs_lt h; omega
    · by_cases e : p i = true
      · rw [if_pos e] at h
        have := List.mem_singleton.mp h
        omega
      · rw [if_neg e] at h; cases h
def pr (l : List Nat) : List (Nat × Int64) := l.map fun r => (r, ((-9223372036854775808) : Int64))
theorem pr_len (l : List Nat) : (pr l).length = l.length := List.length_map ..
theorem pr_app (l : List Nat) (r : Nat) : pr l ++ [(r, ((-9223372036854775808) : Int64))] = pr (l ++ [r]) := by
  unfold pr
  rw [List.map_append]; rfl
theorem bI_iff (a b : Bool) : bI a = bI b ↔ (a == b) = true := by cases a <;> cases b <;> decide
/-- the reference's order -/
def Od (u : St) (l : List Nat) : Prop := u.1 0 16 = nI l.length ∧ l.length ≤ 192 ∧ ∀ i x, l[i]? = some x → u.1 10 i = nI x
section ORD
variable {n k : Nat} {w : Nat → Nat} {C : Nat → Nat → Int64} {M : Nat → Nat → Bool} {q : Int32} {σ u J : St} {c d m e r : Nat} {l : List Nat} {I : Ims} {tbl : List String}
theorem Od.add (h : Od u l) (hl : l.length < 192) (r : Nat) : wp (m_X4_orders u (nI r)) (fun v => Od v (l ++ [r]) ∧ (∀ j, j ≠ 0 → j ≠ 10 → v.1 j = u.1 j) ∧ (∀ j, j ≠ 16 → v.1 0 j = u.1 0 j) ∧ v.2 = u.2) := by
  unfold m_X4_orders
  rw [h.1, ix192 hl, Option.bind_some]
  refine wp_some ⟨⟨?_, by rw [List.length_append]; exact hl, fun i x hx => ?_⟩, fun j h1 h2 => ?_, fun j h1 => ?_, rfl⟩
  · rw [sIs, sIn (Or.inl (by decide)), h.1, nI_s, List.length_append]; rfl
  · rw [sIn (Or.inl (by decide)), sI1]
    by_cases e : i = l.length
    · subst e
      rw [List.getElem?_append_right (Nat.le_refl _), Nat.sub_self] at hx
      have : r = x := by simpa using hx
      subst this
      rw [if_pos ⟨rfl, rfl⟩]
    · have hlt : i < l.length := by
        have := (List.getElem?_eq_some_iff.mp hx).1
        rw [List.length_append] at this
        have h4 : [r].length = 1 := rfl
        omega
      rw [List.getElem?_append_left hlt] at hx
      rw [if_neg (fun q => e q.2)]
      exact h.2.2 i x hx
  · rw [sI_ne h1, sI_ne h2]
  · rw [sIn (Or.inr h1), sIn (Or.inl (by decide))]
theorem rm_od {v : St} (h : RM n k w C M q J u) (h1 : ∀ j, j ≠ 0 → j ≠ 10 → v.1 j = u.1 j) (h2 : ∀ j, j ≠ 16 → v.1 0 j = u.1 0 j) (h3 : v.2 = u.2) : RM n k w C M q J v := h.of (fun j g1 g2 => ⟨h1 j g1 (by omega), by rw [h3]⟩) (h2 5 (by decide)) (h2 6 (by decide)) (h2 7 (by decide))
theorem pickRows_wp (h : RC n k w C M q σ) (hW : Wf n k w C M) (hm : m < 8) (hP : Pk σ (pr l)) (b : Bool) (hl : l.length + fb_ct (fun r => M m r == b) n ≤ 192) : wp (c_X3_pickRows σ (nI m) (bI b)) (fun τ => RC n k w C M q τ ∧ Pk τ (pr (l ++ rs (fun r => M m r == b) n))) := by
  unfold c_X3_pickRows
  refine wp_bm (Q := fun τ => RC n k w C M q τ ∧ Pk τ (pr (l ++ rs (fun r => M m r == b) n))) (wp_lp n (fun i (z : Int32 × St) => z.1 = nI i ∧ RC n k w C M q z.2 ∧ Pk z.2 (pr (l ++ rs (fun r => M m r == b) i))) hW.n5 ⟨rfl, h, by rw [rs, List.append_nil]; exact hP⟩ (fun i z hi hJ => ?_) (fun z hJ => ?_)) (fun τ hτ => wp_some hτ)
  · obtain ⟨z1, τ⟩ := z
    obtain ⟨hz, h1, h2⟩ := hJ
    simp only at hz h1 h2
    subst hz
    have hi2 := hW.r192 hi
    simp only [h1.rows, if_neg (ltL n hW.n31 hi), isUnder_eq h1 hm hi2, Option.bind_some]
    by_cases e : (M m i == b) = true
    · have hlen : (pr (l ++ rs (fun r => M m r == b) i)).length < 192 := by
        have g1 := fb_ct_mono (fun r => M m r == b) (show i + 1 ≤ n by omega)
        rw [fb_ct_succ, if_pos e] at g1
        rw [pr_len, List.length_append, rs_len]
        omega
      rw [if_pos ((bI_iff _ _).mpr e)]
      obtain ⟨τ2, e2, h3, h4⟩ := h2.take hlen i ((-9223372036854775808) : Int64)
      rw [e2, Option.bind_some, Option.bind_some, nI_s i]
      refine wp_some ⟨rfl, rc_19 h1 h4, ?_⟩
      rw [pr_app, List.append_assoc] at h3
      rw [rs, if_pos e]
      exact h3
    · rw [if_neg (fun z => e ((bI_iff _ _).mp z)), Option.bind_some, nI_s i]
      refine wp_some ⟨rfl, h1, ?_⟩
      rw [rs, if_neg e, List.append_nil]
      exact h2
  · obtain ⟨z1, τ⟩ := z
    obtain ⟨hz, h1, h2⟩ := hJ
    simp only at hz h1 h2
    subst hz
    simp only [h1.rows]
    exact wp_eq (if_pos (geL n hW.n31)) ⟨h1, h2⟩
theorem ordersThose_wp (h : RM n k w C M q J u) (ht : u.1 0 0 = 0) (hW : Wf n k w C M) (hm : m < 8) (hP : Od u l) (b : Bool) (hl : l.length + fb_ct (fun r => M m r == b) n ≤ 192) : wp (m_X4_ordersThose u (nI m) (bI b)) (fun v => RM n k w C M q J v ∧ v.1 0 0 = 0 ∧ Od v (l ++ rs (fun r => M m r == b) n)) := by
  unfold m_X4_ordersThose
  refine wp_bm (Q := fun v => RM n k w C M q J v ∧ v.1 0 0 = 0 ∧ Od v (l ++ rs (fun r => M m r == b) n)) (wp_lp n (fun i (z : Int32 × St) => z.1 = nI i ∧ RM n k w C M q J z.2 ∧ z.2.1 0 0 = 0 ∧ Od z.2 (l ++ rs (fun r => M m r == b) i)) hW.n5 ⟨rfl, h, ht, by rw [rs, List.append_nil]; exact hP⟩ (fun i z hi hJ => ?_) (fun z hJ => ?_)) (fun v hv => wp_some hv)
  · obtain ⟨z1, v⟩ := z
    obtain ⟨hz, h1, h0, h2⟩ := hJ
    simp only at hz h1 h0 h2
    subst hz
    have hi2 := hW.r192 hi
    simp only [h1.rows, if_neg (ltL n hW.n31 hi), at_eq, ix_nI (show 192 * m + i < 1536 by omega) (by decide), Option.bind_some, h1.msk hm hi2]
    by_cases e : (M m i == b) = true
    · have hlen : (l ++ rs (fun r => M m r == b) i).length < 192 := by
        have g1 := fb_ct_mono (fun r => M m r == b) (show i + 1 ≤ n by omega)
        rw [fb_ct_succ, if_pos e] at g1
        rw [List.length_append, rs_len]
        omega
      rw [if_pos ((bI_iff _ _).mpr e)]
      obtain ⟨v2, e2, h3, h4, h5, h6⟩ := h2.add hlen i
      rw [e2, Option.bind_some, Option.bind_some, nI_s i]
      refine wp_some ⟨rfl, rm_od h1 h4 h5 h6, ?_, ?_⟩
      · show v2.1 0 0 = 0
        rw [h5 0 (by decide)]; exact h0
      · rw [List.append_assoc] at h3
        rw [rs, if_pos e]
        exact h3
    · rw [if_neg (fun z => e ((bI_iff _ _).mp z)), Option.bind_some, nI_s i]
      refine wp_some ⟨rfl, h1, h0, ?_⟩
      rw [rs, if_neg e, List.append_nil]
      exact h2
  · obtain ⟨z1, v⟩ := z
    obtain ⟨hz, h1, h0, h2⟩ := hJ
    simp only at hz h1 h0 h2
    subst hz
    simp only [h1.rows]
    exact wp_eq (if_pos (geL n hW.n31)) ⟨h1, h0, h2⟩
end ORD
