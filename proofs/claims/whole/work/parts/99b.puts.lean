/-! ===== the reference puts its rows in an order ===== -/
theorem fL1 {σ : St} {i o n : Nat} {f : Nat → Int64} : (fL σ i o f n).1 = σ.1 := rfl
theorem fI2 {σ : St} {i o n : Nat} {f : Nat → Int32} : (fI σ i o f n).2 = σ.2 := rfl
theorem fIL_s (v : St) (a b : Nat) (fA : Nat → Int64) (fB : Nat → Int32) (i : Nat) : sI (sL (fI (fL v a 0 fA i) b 0 fB i) a i (fA i)) b i (fB i) = fI (fL v a 0 fA (i + 1)) b 0 fB (i + 1) := by
  rw [← fI_s0, ← fL_s0]; rfl
theorem fLI_s (v : St) (a b o : Nat) (fA : Nat → Int64) (fB : Nat → Int32) (i : Nat) : sL (sI (fL (fI v a o fB i) b o fA i) a (o + i) (fB i)) b (o + i) (fA i) = fL (fI v a o fB (i + 1)) b o fA (i + 1) := by
  rw [← fL_s, ← fI_s]; rfl
section PUT
variable {n k : Nat} {w : Nat → Nat} {C : Nat → Nat → Int64} {M : Nat → Nat → Bool} {q : Int32} {u v J : St} {l : List Nat} {c m N i : Nat} {b : Bool}
theorem pB_step {S : St} (hS : S.1 0 16 = nI N) (hN : N ≤ 192) (hi : i < 192) (hb : i < N → S.1 12 i = bI b) : (if S.1 0 16 ≤ nI i then some (0 : Int32) else ((ix (nI i) 192).bind fun j47 => (if S.1 12 j47 = 0 then some (0 : Int32) else some (1 : Int32)))) = some (bI (decide (i < N) && b)) := by
  rw [hS, ix192 hi, Option.bind_some]
  by_cases h : i < N
  · rw [if_neg (ltL N (by omega) h), hb h, decide_eq_true h]
    cases b <;> rfl
  · rw [if_pos (nI_le (by omega) (by omega)), decide_eq_false h]; rfl
theorem pC_step {S : St} (hS : S.1 0 16 = nI N) (hN : N ≤ 192) (hi : i < 192) : (if S.1 0 16 ≤ nI i then some (0 : Int64) else ((ix (nI i) 192).bind fun j58 => some (S.2 11 j58))) = some (if i < N then S.2 11 i else 0) := by
  rw [hS, ix192 hi, Option.bind_some]
  by_cases h : i < N
  · rw [if_neg (ltL N (by omega) h), if_pos h]
  · rw [if_pos (nI_le (by omega) (by omega)), if_neg h]
theorem pcolA_eq (hP : Od v l) (hl : ∀ x, x ∈ l → x < n) (hn : n ≤ 192) (hc : c < 6) : lp 5000 (fun (s9 : Int32 × St) => (if s9.2.1 0 16 ≤ s9.1 then some (.inr s9.2) else ((ix s9.1 192).bind fun j17 => ((m_X4_at s9.2 (nI c) (s9.2.1 10 j17)).bind fun v19 => ((ix v19 1152).bind fun j21 => ((ix s9.1 192).bind fun j23 => ((ix s9.1 192).bind fun j25 => ((m_X4_at (sL s9.2 11 j23 (s9.2.2 1 j21)) (nI c) ((sL s9.2 11 j23 (s9.2.2 1 j21)).1 10 j25)).bind fun v27 => ((ix v27 1152).bind fun j29 => ((ix s9.1 192).bind fun j31 => some (.inl ((s9.1 + 1), (sI (sL s9.2 11 j23 (s9.2.2 1 j21)) 12 j31 (nz ((sL s9.2 11 j23 (s9.2.2 1 j21)).1 2 j29))))))))))))))) ((0 : Int32), v) = some (fI (fL v 11 0 (fun i => v.2 1 (192 * c + l.getD i 0)) l.length) 12 0 (fun i => nz (v.1 2 (192 * c + l.getD i 0))) l.length) := by
  have h192 := hP.2.1
  refine lp_g (fun i => (nI i, fI (fL v 11 0 (fun i => v.2 1 (192 * c + l.getD i 0)) i) 12 0 (fun i => nz (v.1 2 (192 * c + l.getD i 0))) i)) l.length _ ?_ (by omega) (fun i hi => ?_) ?_
  · rw [fL_0, fI_0]; rfl
  · have hlt := getD_lt hl hi
    have e16 : (fI (fL v 11 0 (fun i => v.2 1 (192 * c + l.getD i 0)) i) 12 0 (fun i => nz (v.1 2 (192 * c + l.getD i 0))) i).1 0 16 = nI l.length := by rw [fI_ne (by decide)]; exact hP.1
    have e10 : (fI (fL v 11 0 (fun i => v.2 1 (192 * c + l.getD i 0)) i) 12 0 (fun i => nz (v.1 2 (192 * c + l.getD i 0))) i).1 10 i = nI (l.getD i 0) := by rw [fI_ne (by decide)]; exact hP.row hi
    have e1 : (fI (fL v 11 0 (fun i => v.2 1 (192 * c + l.getD i 0)) i) 12 0 (fun i => nz (v.1 2 (192 * c + l.getD i 0))) i).2 1 (192 * c + l.getD i 0) = v.2 1 (192 * c + l.getD i 0) := by rw [fI2, fL_ne (by decide)]
    have e2 : (fI (fL v 11 0 (fun i => v.2 1 (192 * c + l.getD i 0)) i) 12 0 (fun i => nz (v.1 2 (192 * c + l.getD i 0))) i).1 2 (192 * c + l.getD i 0) = v.1 2 (192 * c + l.getD i 0) := by rw [fI_ne (by decide)]; rfl
    show (if (fI (fL v 11 0 (fun i => v.2 1 (192 * c + l.getD i 0)) i) 12 0 (fun i => nz (v.1 2 (192 * c + l.getD i 0))) i).1 0 16 ≤ nI i then _ else (ix (nI i) 192).bind fun j17 => _) = _
    rw [e16, if_neg (ltL _ (by omega) hi), ix192 (show i < 192 by omega), Option.bind_some, e10, at_eq, Option.bind_some, ixA hc (show l.getD i 0 < 192 by omega), Option.bind_some, Option.bind_some, Option.bind_some, sL1, e10, at_eq, Option.bind_some, ixA hc (show l.getD i 0 < 192 by omega), Option.bind_some, Option.bind_some, e1, e2, nI_s]
    exact congrArg (fun x => some (Sum.inl (nI (i + 1), x))) (fIL_s v 11 12 (fun i => v.2 1 (192 * c + l.getD i 0)) (fun i => nz (v.1 2 (192 * c + l.getD i 0))) i)
  · have e16 : (fI (fL v 11 0 (fun i => v.2 1 (192 * c + l.getD i 0)) l.length) 12 0 (fun i => nz (v.1 2 (192 * c + l.getD i 0))) l.length).1 0 16 = nI l.length := by rw [fI_ne (by decide)]; exact hP.1
    show (if (fI (fL v 11 0 (fun i => v.2 1 (192 * c + l.getD i 0)) l.length) 12 0 (fun i => nz (v.1 2 (192 * c + l.getD i 0))) l.length).1 0 16 ≤ nI l.length then _ else _) = _
    rw [e16, if_pos (geL _ (by omega))]
theorem pcolB_eq (H : Nat → Bool) (h16 : v.1 0 16 = nI N) (hN : N ≤ 192) (hc : c < 6) (h12 : ∀ i, i < N → v.1 12 i = bI (H i)) : lp 5000 (fun (s33 : Int32 × St) => (if (192 : Int32) ≤ s33.1 then some (.inr s33.2) else ((m_X4_at s33.2 (nI c) s33.1).bind fun v41 => ((if s33.2.1 0 16 ≤ s33.1 then some (0 : Int32) else ((ix s33.1 192).bind fun j47 => (if s33.2.1 12 j47 = 0 then some (0 : Int32) else some (1 : Int32)))).bind fun (t43 : Int32) => ((ix v41 1152).bind fun j50 => ((m_X4_at (sI s33.2 2 j50 (nz t43)) (nI c) s33.1).bind fun v52 => ((if (sI s33.2 2 j50 (nz t43)).1 0 16 ≤ s33.1 then some (0 : Int64) else ((ix s33.1 192).bind fun j58 => some ((sI s33.2 2 j50 (nz t43)).2 11 j58))).bind fun (t54 : Int64) => ((ix v52 1152).bind fun j60 => some (.inl ((s33.1 + 1), (sL (sI s33.2 2 j50 (nz t43)) 1 j60 t54))))))))))) ((0 : Int32), v) = some (fL (fI v 2 (192 * c) (fun i => bI (decide (i < N) && H i)) 192) 1 (192 * c) (fun i => if i < N then v.2 11 i else 0) 192) := by
  refine lp_g (fun i => (nI i, fL (fI v 2 (192 * c) (fun i => bI (decide (i < N) && H i)) i) 1 (192 * c) (fun i => if i < N then v.2 11 i else 0) i)) 192 _ ?_ (by decide) (fun i hi => ?_) ?_
  · rw [fI_0, fL_0]; rfl
  · have e16 : (fL (fI v 2 (192 * c) (fun i => bI (decide (i < N) && H i)) i) 1 (192 * c) (fun i => if i < N then v.2 11 i else 0) i).1 0 16 = nI N := by
      show (fI v 2 (192 * c) (fun i => bI (decide (i < N) && H i)) i).1 0 16 = nI N
      rw [fI_ne (by decide)]; exact h16
    have e12 : i < N → (fL (fI v 2 (192 * c) (fun i => bI (decide (i < N) && H i)) i) 1 (192 * c) (fun i => if i < N then v.2 11 i else 0) i).1 12 i = bI (H i) := fun h => by
      show (fI v 2 (192 * c) (fun i => bI (decide (i < N) && H i)) i).1 12 i = _
      rw [fI_ne (by decide)]; exact h12 i h
    have e11 : (fL (fI v 2 (192 * c) (fun i => bI (decide (i < N) && H i)) i) 1 (192 * c) (fun i => if i < N then v.2 11 i else 0) i).2 11 i = v.2 11 i := by rw [fL_ne (by decide)]; rfl
    have e17 : (sI (fL (fI v 2 (192 * c) (fun i => bI (decide (i < N) && H i)) i) 1 (192 * c) (fun i => if i < N then v.2 11 i else 0) i) 2 (192 * c + i) (bI (decide (i < N) && H i))).1 0 16 = nI N := by rw [sIn (Or.inl (by decide))]; exact e16
    show (if (192 : Int32) ≤ nI i then _ else _) = _
    rw [if_neg (lt192 hi), at_eq, Option.bind_some, pB_step e16 hN hi e12, Option.bind_some, ixA hc hi, Option.bind_some, nz_bI, at_eq, Option.bind_some, pC_step e17 hN hi, Option.bind_some, ixA hc hi, Option.bind_some, sI2, e11, nI_s]
    exact congrArg (fun x => some (Sum.inl (nI (i + 1), x))) (fLI_s v 2 1 (192 * c) (fun i => if i < N then v.2 11 i else 0) (fun i => bI (decide (i < N) && H i)) i)
  · exact if_pos ge192
theorem Od.of {t : St} (h : Od u l) (h1 : t.1 0 16 = u.1 0 16) (h2 : t.1 10 = u.1 10) : Od t l := ⟨by rw [h1]; exact h.1, h.2.1, fun i x hx => by rw [h2]; exact h.2.2 i x hx⟩
theorem pcols_wp (hM : RM n k w C M q J u) (hW : Wf n k w C M) (hP : Od u l) (hl : ∀ x, x ∈ l → x < n) : wp (lp 5000 (fun (s1 : Int32 × St) => (if s1.2.1 0 6 ≤ s1.1 then some (.inr s1.2) else ((lp 5000 (fun (s9 : Int32 × St) => (if s9.2.1 0 16 ≤ s9.1 then some (.inr s9.2) else ((ix s9.1 192).bind fun j17 => ((m_X4_at s9.2 s1.1 (s9.2.1 10 j17)).bind fun v19 => ((ix v19 1152).bind fun j21 => ((ix s9.1 192).bind fun j23 => ((ix s9.1 192).bind fun j25 => ((m_X4_at (sL s9.2 11 j23 (s9.2.2 1 j21)) s1.1 ((sL s9.2 11 j23 (s9.2.2 1 j21)).1 10 j25)).bind fun v27 => ((ix v27 1152).bind fun j29 => ((ix s9.1 192).bind fun j31 => some (.inl ((s9.1 + 1), (sI (sL s9.2 11 j23 (s9.2.2 1 j21)) 12 j31 (nz ((sL s9.2 11 j23 (s9.2.2 1 j21)).1 2 j29))))))))))))))) ((0 : Int32), s1.2)).bind fun (r10 : St) => ((lp 5000 (fun (s33 : Int32 × St) => (if (192 : Int32) ≤ s33.1 then some (.inr s33.2) else ((m_X4_at s33.2 s1.1 s33.1).bind fun v41 => ((if s33.2.1 0 16 ≤ s33.1 then some (0 : Int32) else ((ix s33.1 192).bind fun j47 => (if s33.2.1 12 j47 = 0 then some (0 : Int32) else some (1 : Int32)))).bind fun (t43 : Int32) => ((ix v41 1152).bind fun j50 => ((m_X4_at (sI s33.2 2 j50 (nz t43)) s1.1 s33.1).bind fun v52 => ((if (sI s33.2 2 j50 (nz t43)).1 0 16 ≤ s33.1 then some (0 : Int64) else ((ix s33.1 192).bind fun j58 => some ((sI s33.2 2 j50 (nz t43)).2 11 j58))).bind fun (t54 : Int64) => ((ix v52 1152).bind fun j60 => some (.inl ((s33.1 + 1), (sL (sI s33.2 2 j50 (nz t43)) 1 j60 t54))))))))))) ((0 : Int32), r10)).bind fun (r34 : St) => some (.inl ((s1.1 + 1), r34)))))) ((0 : Int32), u)) (fun t => (∀ j, j ≠ 2 → j ≠ 12 → t.1 j = u.1 j) ∧ (∀ j, j ≠ 1 → j ≠ 11 → t.2 j = u.2 j) ∧ (∀ c i, c < k → i < 192 → t.1 2 (192 * c + i) = bI (decide (i < l.length) && C c (l.getD i 0) != ((-9223372036854775808) : Int64))) ∧ ∀ c i, c < k → i < l.length → C c (l.getD i 0) ≠ ((-9223372036854775808) : Int64) → t.2 1 (192 * c + i) = C c (l.getD i 0)) := by
  have hn := hW.hn
  have hk := hW.hk
  have h192 := hP.2.1
  refine wp_lp k (fun x (z : Int32 × St) => z.1 = nI x ∧ (∀ j, j ≠ 2 → j ≠ 12 → z.2.1 j = u.1 j) ∧ (∀ j, j ≠ 1 → j ≠ 11 → z.2.2 j = u.2 j) ∧ (∀ c i, c < x → i < 192 → z.2.1 2 (192 * c + i) = bI (decide (i < l.length) && C c (l.getD i 0) != ((-9223372036854775808) : Int64))) ∧ (∀ c i, c < x → i < l.length → C c (l.getD i 0) ≠ ((-9223372036854775808) : Int64) → z.2.2 1 (192 * c + i) = C c (l.getD i 0)) ∧ ∀ c i, x ≤ c → i < 192 → z.2.1 2 (192 * c + i) = u.1 2 (192 * c + i) ∧ z.2.2 1 (192 * c + i) = u.2 1 (192 * c + i)) (by omega) ⟨rfl, fun _ _ _ => rfl, fun _ _ _ => rfl, fun c i h => absurd h (by omega), fun c i h => absurd h (by omega), fun _ _ _ _ => ⟨rfl, rfl⟩⟩ (fun x z hx hJ => ?_) (fun z hJ => ?_)
  · obtain ⟨z1, τ⟩ := z
    obtain ⟨e1, h1, h2, h3, h4, h5⟩ := hJ
    simp only at e1 h1 h2 h3 h4 h5
    subst e1
    have hx6 : x < 6 := by omega
    have hPt : Od τ l := hP.of (by rw [h1 0 (by decide) (by decide)]) (h1 10 (by decide) (by decide))
    have eA := pcolA_eq (c := x) hPt hl hn hx6
    have h12 : ∀ i, i < l.length → (fI (fL τ 11 0 (fun i => τ.2 1 (192 * x + l.getD i 0)) l.length) 12 0 (fun i => nz (τ.1 2 (192 * x + l.getD i 0))) l.length).1 12 i = bI (C x (l.getD i 0) != ((-9223372036854775808) : Int64)) := fun i hi => by
      have hlt := getD_lt hl hi
      rw [fI_in0 hi, (h5 x _ (Nat.le_refl _) (show l.getD i 0 < 192 by omega)).1, hM.has' hW hx hlt, nz_bI]
    have h16 : (fI (fL τ 11 0 (fun i => τ.2 1 (192 * x + l.getD i 0)) l.length) 12 0 (fun i => nz (τ.1 2 (192 * x + l.getD i 0))) l.length).1 0 16 = nI l.length := by rw [fI_ne (by decide)]; exact hPt.1
    have eB := pcolB_eq (c := x) (fun i => C x (l.getD i 0) != ((-9223372036854775808) : Int64)) h16 h192 hx6 h12
    have h11 : ∀ i, i < l.length → (fI (fL τ 11 0 (fun i => τ.2 1 (192 * x + l.getD i 0)) l.length) 12 0 (fun i => nz (τ.1 2 (192 * x + l.getD i 0))) l.length).2 11 i = u.2 1 (192 * x + l.getD i 0) := fun i hi => by
      have hlt := getD_lt hl hi
      show (fL τ 11 0 (fun i => τ.2 1 (192 * x + l.getD i 0)) l.length).2 11 i = _
      rw [fL_in0 hi, (h5 x _ (Nat.le_refl _) (show l.getD i 0 < 192 by omega)).2]
    have n1 : ∀ j, j ≠ 12 → (fI (fL τ 11 0 (fun i => τ.2 1 (192 * x + l.getD i 0)) l.length) 12 0 (fun i => nz (τ.1 2 (192 * x + l.getD i 0))) l.length).1 j = τ.1 j := fun j hj => by rw [fI_ne hj]; rfl
    have n2 : ∀ j, j ≠ 11 → (fI (fL τ 11 0 (fun i => τ.2 1 (192 * x + l.getD i 0)) l.length) 12 0 (fun i => nz (τ.1 2 (192 * x + l.getD i 0))) l.length).2 j = τ.2 j := fun j hj => by rw [fI2, fL_ne hj]
    generalize hV : fI (fL τ 11 0 (fun i => τ.2 1 (192 * x + l.getD i 0)) l.length) 12 0 (fun i => nz (τ.1 2 (192 * x + l.getD i 0))) l.length = V at eA eB h11 n1 n2
    refine ⟨Sum.inl (nI (x + 1), fL (fI V 2 (192 * x) (fun i => bI (decide (i < l.length) && (fun i => C x (l.getD i 0) != ((-9223372036854775808) : Int64)) i)) 192) 1 (192 * x) (fun i => if i < l.length then V.2 11 i else 0) 192), ?_, rfl, fun j g1 g2 => ?_, fun j g1 g2 => ?_, fun c i g1 g2 => ?_, fun c i g1 g2 g3 => ?_, fun c i g1 g2 => ⟨?_, ?_⟩⟩
    · show (if τ.1 0 6 ≤ nI x then _ else (lp 5000 _ _).bind _) = _
      rw [h1 0 (by decide) (by decide), hM.cols, if_neg (ltL k (by omega) hx), eA, Option.bind_some]
      show (lp 5000 _ _).bind _ = _
      rw [eB, Option.bind_some, nI_s]
    · dsimp only [fL1]
      rw [fI_ne g1, n1 j g2]; exact h1 j g1 g2
    · dsimp only
      rw [fL_ne g1, fI2, n2 j g2]; exact h2 j g1 g2
    · show (fI V 2 (192 * x) (fun i => bI (decide (i < l.length) && C x (l.getD i 0) != ((-9223372036854775808) : Int64))) 192).1 2 (192 * c + i) = _
      by_cases g : c = x
      · subst g; rw [fI_in g2]
      · rw [fI_out (by omega), n1 2 (by decide)]; exact h3 c i (by omega) g2
    · dsimp only
      by_cases g : c = x
      · subst g
        rw [fL_in (by omega), if_pos g2, h11 i g2]
        exact hM.cell hx (getD_lt hl g2) g3
      · rw [fL_out (by omega), fI2, n2 1 (by decide)]; exact h4 c i (by omega) g2 g3
    · dsimp only [fL1]
      rw [fI_out (by omega), n1 2 (by decide)]; exact (h5 c i (by omega) g2).1
    · dsimp only
      rw [fL_out (by omega), fI2, n2 1 (by decide)]; exact (h5 c i (by omega) g2).2
  · obtain ⟨z1, τ⟩ := z
    obtain ⟨e1, h1, h2, h3, h4, h5⟩ := hJ
    simp only at e1 h1 h2 h3 h4 h5
    subst e1
    refine ⟨Sum.inr τ, ?_, ⟨h1, h2, h3, h4⟩⟩
    show (if τ.1 0 6 ≤ nI k then _ else _) = _
    rw [h1 0 (by decide) (by decide), hM.cols, if_pos (geL k (by omega))]
theorem pmA_eq (hP : Od v l) (hl : ∀ x, x ∈ l → x < n) (hn : n ≤ 192) (hm : m < 8) : lp 5000 (fun (s72 : Int32 × St) => (if s72.2.1 0 16 ≤ s72.1 then some (.inr s72.2) else ((ix s72.1 192).bind fun j80 => ((m_X4_at s72.2 (nI m) (s72.2.1 10 j80)).bind fun v82 => ((ix v82 1536).bind fun j84 => ((ix s72.1 192).bind fun j86 => some (.inl ((s72.1 + 1), (sI s72.2 12 j86 (nz (s72.2.1 4 j84))))))))))) ((0 : Int32), v) = some (fI v 12 0 (fun i => nz (v.1 4 (192 * m + l.getD i 0))) l.length) := by
  have h192 := hP.2.1
  refine lp_g (fun i => (nI i, fI v 12 0 (fun i => nz (v.1 4 (192 * m + l.getD i 0))) i)) l.length _ ?_ (by omega) (fun i hi => ?_) ?_
  · rw [fI_0]; rfl
  · have hlt := getD_lt hl hi
    have e16 : (fI v 12 0 (fun i => nz (v.1 4 (192 * m + l.getD i 0))) i).1 0 16 = nI l.length := by rw [fI_ne (by decide)]; exact hP.1
    have e10 : (fI v 12 0 (fun i => nz (v.1 4 (192 * m + l.getD i 0))) i).1 10 i = nI (l.getD i 0) := by rw [fI_ne (by decide)]; exact hP.row hi
    have e4 : (fI v 12 0 (fun i => nz (v.1 4 (192 * m + l.getD i 0))) i).1 4 (192 * m + l.getD i 0) = v.1 4 (192 * m + l.getD i 0) := by rw [fI_ne (by decide)]
    show (if (fI v 12 0 (fun i => nz (v.1 4 (192 * m + l.getD i 0))) i).1 0 16 ≤ nI i then _ else (ix (nI i) 192).bind fun j17 => _) = _
    rw [e16, if_neg (ltL _ (by omega) hi), ix192 (show i < 192 by omega), Option.bind_some, e10, at_eq, Option.bind_some, ixB hm (show l.getD i 0 < 192 by omega), Option.bind_some, Option.bind_some, e4, nI_s]
    exact congrArg (fun x => some (Sum.inl (nI (i + 1), x))) (fI_s0 v 12 (fun i => nz (v.1 4 (192 * m + l.getD i 0))) i)
  · have e16 : (fI v 12 0 (fun i => nz (v.1 4 (192 * m + l.getD i 0))) l.length).1 0 16 = nI l.length := by rw [fI_ne (by decide)]; exact hP.1
    show (if (fI v 12 0 (fun i => nz (v.1 4 (192 * m + l.getD i 0))) l.length).1 0 16 ≤ nI l.length then _ else _) = _
    rw [e16, if_pos (geL _ (by omega))]
theorem pmB_eq (H : Nat → Bool) (h16 : v.1 0 16 = nI N) (hN : N ≤ 192) (hm : m < 8) (h12 : ∀ i, i < N → v.1 12 i = bI (H i)) : lp 5000 (fun (s88 : Int32 × St) => (if (192 : Int32) ≤ s88.1 then some (.inr s88.2) else ((m_X4_at s88.2 (nI m) s88.1).bind fun v96 => ((if s88.2.1 0 16 ≤ s88.1 then some (0 : Int32) else ((ix s88.1 192).bind fun j102 => (if s88.2.1 12 j102 = 0 then some (0 : Int32) else some (1 : Int32)))).bind fun (t98 : Int32) => ((ix v96 1536).bind fun j105 => some (.inl ((s88.1 + 1), (sI s88.2 4 j105 (nz t98))))))))) ((0 : Int32), v) = some (fI v 4 (192 * m) (fun i => bI (decide (i < N) && H i)) 192) := by
  refine lp_g (fun i => (nI i, fI v 4 (192 * m) (fun i => bI (decide (i < N) && H i)) i)) 192 _ ?_ (by decide) (fun i hi => ?_) ?_
  · rw [fI_0]; rfl
  · have e16 : (fI v 4 (192 * m) (fun i => bI (decide (i < N) && H i)) i).1 0 16 = nI N := by rw [fI_ne (by decide)]; exact h16
    have e12 : i < N → (fI v 4 (192 * m) (fun i => bI (decide (i < N) && H i)) i).1 12 i = bI (H i) := fun h => by rw [fI_ne (by decide)]; exact h12 i h
    show (if (192 : Int32) ≤ nI i then _ else _) = _
    rw [if_neg (lt192 hi), at_eq, Option.bind_some, pB_step e16 hN hi e12, Option.bind_some, ixB hm hi, Option.bind_some, nz_bI, nI_s]
    exact congrArg (fun x => some (Sum.inl (nI (i + 1), x))) (fI_s v 4 (192 * m) (fun i => bI (decide (i < N) && H i)) i)
  · exact if_pos ge192
theorem pmasks_wp (hW : Wf n k w C M) (hK : ∀ m r, m < 8 → r < 192 → v.1 4 (192 * m + r) = bI (M m r)) (hP : Od v l) (hl : ∀ x, x ∈ l → x < n) : wp (lp 5000 (fun (s64 : Int32 × St) => (if (8 : Int32) ≤ s64.1 then some (.inr s64.2) else ((lp 5000 (fun (s72 : Int32 × St) => (if s72.2.1 0 16 ≤ s72.1 then some (.inr s72.2) else ((ix s72.1 192).bind fun j80 => ((m_X4_at s72.2 s64.1 (s72.2.1 10 j80)).bind fun v82 => ((ix v82 1536).bind fun j84 => ((ix s72.1 192).bind fun j86 => some (.inl ((s72.1 + 1), (sI s72.2 12 j86 (nz (s72.2.1 4 j84))))))))))) ((0 : Int32), s64.2)).bind fun (r73 : St) => ((lp 5000 (fun (s88 : Int32 × St) => (if (192 : Int32) ≤ s88.1 then some (.inr s88.2) else ((m_X4_at s88.2 s64.1 s88.1).bind fun v96 => ((if s88.2.1 0 16 ≤ s88.1 then some (0 : Int32) else ((ix s88.1 192).bind fun j102 => (if s88.2.1 12 j102 = 0 then some (0 : Int32) else some (1 : Int32)))).bind fun (t98 : Int32) => ((ix v96 1536).bind fun j105 => some (.inl ((s88.1 + 1), (sI s88.2 4 j105 (nz t98))))))))) ((0 : Int32), r73)).bind fun (r89 : St) => some (.inl ((s64.1 + 1), r89)))))) ((0 : Int32), v)) (fun t => (∀ j, j ≠ 4 → j ≠ 12 → t.1 j = v.1 j) ∧ t.2 = v.2 ∧ ∀ m r, m < 8 → r < 192 → t.1 4 (192 * m + r) = bI (mArr l M m r)) := by
  have hn := hW.hn
  have h192 := hP.2.1
  refine wp_lp 8 (fun x (z : Int32 × St) => z.1 = nI x ∧ (∀ j, j ≠ 4 → j ≠ 12 → z.2.1 j = v.1 j) ∧ z.2.2 = v.2 ∧ ∀ m r, m < 8 → r < 192 → z.2.1 4 (192 * m + r) = bI (mArS l M x m r)) (by decide) ⟨rfl, fun _ _ _ => rfl, rfl, fun m r hm hr => by rw [mArS_0]; exact hK m r hm hr⟩ (fun x z hx hJ => ?_) (fun z hJ => ?_)
  · obtain ⟨z1, τ⟩ := z
    obtain ⟨e1, h1, h2, h3⟩ := hJ
    simp only at e1 h1 h2 h3
    subst e1
    have hPt : Od τ l := hP.of (by rw [h1 0 (by decide) (by decide)]) (h1 10 (by decide) (by decide))
    have eA := pmA_eq (m := x) hPt hl hn hx
    have h12 : ∀ i, i < l.length → (fI τ 12 0 (fun i => nz (τ.1 4 (192 * x + l.getD i 0))) l.length).1 12 i = bI (M x (l.getD i 0)) := fun i hi => by
      have hlt := getD_lt hl hi
      rw [fI_in0 hi, h3 x _ hx (show l.getD i 0 < 192 by omega), nz_bI]
      unfold mArS
      rw [if_neg (by omega)]
    have h16 : (fI τ 12 0 (fun i => nz (τ.1 4 (192 * x + l.getD i 0))) l.length).1 0 16 = nI l.length := by rw [fI_ne (by decide)]; exact hPt.1
    have eB := pmB_eq (m := x) (fun i => M x (l.getD i 0)) h16 h192 hx h12
    have n1 : ∀ j, j ≠ 12 → (fI τ 12 0 (fun i => nz (τ.1 4 (192 * x + l.getD i 0))) l.length).1 j = τ.1 j := fun j hj => fI_ne hj
    have n2 : (fI τ 12 0 (fun i => nz (τ.1 4 (192 * x + l.getD i 0))) l.length).2 = τ.2 := rfl
    generalize hV : fI τ 12 0 (fun i => nz (τ.1 4 (192 * x + l.getD i 0))) l.length = V at eA eB n1 n2
    refine ⟨Sum.inl (nI (x + 1), fI V 4 (192 * x) (fun i => bI (decide (i < l.length) && (fun i => M x (l.getD i 0)) i)) 192), ?_, rfl, fun j g1 g2 => ?_, ?_, fun a i g1 g2 => ?_⟩
    · show (if (8 : Int32) ≤ nI x then _ else (lp 5000 _ _).bind _) = _
      rw [if_neg (show ¬ (8 : Int32) ≤ nI x from nI_ge (b := 8) hx (by decide)), eA, Option.bind_some]
      show (lp 5000 _ _).bind _ = _
      rw [eB, Option.bind_some, nI_s]
    · dsimp only
      rw [fI_ne g1, n1 j g2]; exact h1 j g1 g2
    · exact n2.trans h2
    · show (fI V 4 (192 * x) (fun i => bI (decide (i < l.length) && M x (l.getD i 0))) 192).1 4 (192 * a + i) = _
      rw [← mArS_s]
      unfold upM
      by_cases g : a = x
      · subst g
        rw [fI_in g2, if_pos rfl]; rfl
      · rw [fI_out (by omega), n1 4 (by decide), if_neg g]; exact h3 a i g1 g2
  · obtain ⟨z1, τ⟩ := z
    obtain ⟨e1, h1, h2, h3⟩ := hJ
    simp only at e1 h1 h2 h3
    subst e1
    refine wp_eq (if_pos (show (8 : Int32) ≤ nI 8 by decide)) ⟨h1, h2, fun m r hm hr => ?_⟩
    have := h3 m r hm hr
    unfold mArS at this
    rw [if_pos hm] at this
    exact this
theorem puts_wp (hM : RM n k w C M q J u) (ht : u.1 0 0 = 0) (hW : Wf n k w C M) (hP : Od u l) (hl : ∀ x, x ∈ l → x < n) : wp (m_X4_puts u) (fun p => p.1 = nI (fb_ct (els l) l.length) ∧ p.2.1 0 0 = 0 ∧ RM l.length k w (cArr l C) (mArr l M) q J p.2) := by
  unfold m_X4_puts
  refine wp_bm (pcols_wp hM hW hP hl) (fun t h => ?_)
  obtain ⟨h1, h2, h3, h4⟩ := h
  have hPt : Od t l := hP.of (by rw [h1 0 (by decide) (by decide)]) (h1 10 (by decide) (by decide))
  refine wp_bm (pmasks_wp hW (v := t) (fun m r hm hr => by rw [h1 4 (by decide) (by decide)]; exact hM.msk hm hr) hPt hl) (fun s h => ?_)
  obtain ⟨g1, g2, g3⟩ := h
  have hPs : Od s l := hPt.of (by rw [g1 0 (by decide) (by decide)]) (g1 10 (by decide) (by decide))
  rw [hPs.1]
  have hPz : Od (sI s 0 5 (nI l.length)) l := hPs.of (sIn (Or.inr (by decide))) (sI_ne (by decide))
  rw [melse_eq hPz hW.hn hl, Option.bind_some]
  have e0 : ∀ j, j ≠ 5 → (sI s 0 5 (nI l.length)).1 0 j = u.1 0 j := fun j hj => by rw [sIn (Or.inr hj), g1 0 (by decide) (by decide), h1 0 (by decide) (by decide)]
  refine wp_some ⟨rfl, ?_, sIs, ?_, ?_, fun c hc => ?_, fun c r hc hr => ?_, fun c r hc hr hN => ?_, fun m r hm hr => ?_, fun i hi => ⟨?_, ?_⟩⟩
  · show (sI s 0 5 (nI l.length)).1 0 0 = 0
    rw [e0 0 (by decide)]; exact ht
  · rw [e0 6 (by decide)]; exact hM.cols
  · rw [e0 7 (by decide)]; exact hM.kept
  · rw [sI_ne (by decide), g1 3 (by decide) (by decide), h1 3 (by decide) (by decide)]; exact hM.wid hc
  · rw [sI_ne (by decide), g1 2 (by decide) (by decide), h3 c r hc hr]
    unfold cArr
    by_cases g : r < l.length
    · rw [if_pos g]
    · rw [decide_eq_false g]; rfl
  · show s.2 1 (192 * c + r) = _
    unfold cArr at hN ⊢
    rw [if_pos hr] at hN ⊢
    rw [g2]
    exact h4 c r hc hr hN
  · rw [sI_ne (by decide)]; exact g3 m r hm hr
  · rw [sI_ne (by omega), g1 i (by omega) (by omega), h1 i (by omega) (by omega)]; exact (hM.img hi).1
  · show s.2 i = _
    rw [g2, h2 i (by omega) (by omega)]; exact (hM.img hi).2
end PUT
