/-! ===== the class puts its columns in an order ===== -/
section ARR
variable {n k : Nat} {w : Nat → Nat} {C : Nat → Nat → Int64} {M : Nat → Nat → Bool} {q : Int32} {σ u J : St} {c d m e r : Nat} {l : List Nat} {I : Ims} {tbl : List String}
theorem expectAs_eq (hr : σ.1 1 0 = nI n) (hn : n ≤ 192) (hc : c < 6) : c_X3_expectAsItIs σ (nI c) = some (fL σ 27 0 (σ.2 (4 + c)) n) := by
  unfold c_X3_expectAsItIs
  rw [lp_g (fun i => (nI i, fL σ 27 0 (σ.2 (4 + c)) i)) n (fL σ 27 0 (σ.2 (4 + c)) n) ?_ (by omega) (fun i hi => ?_) ?_]
  · rfl
  · rw [fL_0]; rfl
  · show (if σ.1 1 0 ≤ nI n then _ else _) = _
    rw [hr, if_pos (geL n (by omega))]
  · show (if σ.1 1 0 ≤ nI i then _ else _) = _
    rw [hr, if_neg (ltL n (by omega) hi), ix6 hc, Option.bind_some, ix192 (by omega), Option.bind_some, Option.bind_some, nI_s, fL_ne (by omega), fL_s0 σ 27 (σ.2 (4 + c)) i]
/-- the class's picked rows alone -/
def Pr (σ : St) (l : List Nat) : Prop := σ.1 19 0 = nI l.length ∧ l.length ≤ 192 ∧ ∀ i, i < l.length → σ.1 20 i = nI (l.getD i 0)
theorem Pk.toPr {L : List (Nat × Int64)} (h : Pk σ L) : Pr σ (L.map Prod.fst) := by
  refine ⟨by rw [List.length_map]; exact h.1, by rw [List.length_map]; exact h.2.1, fun i hi => ?_⟩
  rw [List.length_map] at hi
  rw [List.getD_eq_getElem?_getD, List.getElem?_map, List.getElem?_eq_getElem hi]
  exact (h.2.2 i _ (List.getElem?_eq_getElem hi)).1
theorem pr_fst (l : List Nat) : (pr l).map Prod.fst = l := by
  unfold pr
  rw [List.map_map]
  exact List.map_id l
theorem Pk.prs (h : Pk σ (pr l)) : Pr σ l := by
  have := h.toPr
  rwa [pr_fst] at this
theorem Pr.row (h : Pr σ l) {i : Nat} (hi : i < l.length) : σ.1 20 i = nI (l.getD i 0) := h.2.2 i hi
theorem Pr.of {τ : St} (h : Pr σ l) (h1 : τ.1 19 = σ.1 19) (h2 : τ.1 20 = σ.1 20) : Pr τ l := ⟨by rw [h1]; exact h.1, h.2.1, fun i hi => by rw [h2]; exact h.2.2 i hi⟩
theorem getD_lt (hl : ∀ x, x ∈ l → x < n) {i : Nat} (hi : i < l.length) : l.getD i 0 < n := by
  rw [List.getD_eq_getElem?_getD, List.getElem?_eq_getElem hi]
  exact hl _ (List.getElem_mem hi)
/-- one column -/
theorem acol_eq {τ : St} (hr : τ.1 = σ.1) (hP : Pr σ l) (hn : n ≤ 192) (hl : ∀ x, x ∈ l → x < n) (hc : c < 6) (h27 : ∀ i, i < n → τ.2 27 i = σ.2 (4 + c) i) : lp 5000 (fun (s11 : Int32 × St) => (if s11.2.1 19 0 ≤ s11.1 then some (.inr s11.2) else ((ix (nI c) 6).bind fun j19 => ((ix s11.1 192).bind fun j21 => ((ix (s11.2.1 20 j21) 192).bind fun j23 => ((ix s11.1 192).bind fun j25 => some (.inl ((s11.1 + 1), (sL s11.2 (4 + j19) j25 (s11.2.2 27 j23)))))))))) ((0 : Int32), τ) = some (fL τ (4 + c) 0 (fun i => σ.2 (4 + c) (l.getD i 0)) l.length) := by
  have h192 : l.length ≤ 192 := hP.2.1
  have h19 : σ.1 19 0 = nI l.length := hP.1
  refine lp_g (fun i => (nI i, fL τ (4 + c) 0 (fun i => σ.2 (4 + c) (l.getD i 0)) i)) l.length _ ?_ (by omega) (fun i hi => ?_) ?_
  · rw [fL_0]; rfl
  · show (if τ.1 19 0 ≤ nI i then _ else (ix (nI c) 6).bind fun j19 => (ix (nI i) 192).bind fun j21 => (ix (τ.1 20 j21) 192).bind _) = _
    have hlt := getD_lt hl hi
    rw [hr, h19, if_neg (ltL _ (by omega) hi), ix6 hc, Option.bind_some, ix192 (by omega), Option.bind_some, hP.row hi, ix192 (by omega), Option.bind_some, Option.bind_some, nI_s, fL_ne (by omega), h27 _ hlt]
    exact congrArg (fun x => some (Sum.inl (nI (i + 1), x))) (fL_s0 τ (4 + c) (fun i => σ.2 (4 + c) (l.getD i 0)) i)
  · show (if τ.1 19 0 ≤ nI l.length then _ else _) = _
    rw [hr, h19, if_pos (geL _ (by omega))]
/-- all columns -/
theorem acols_wp (hC : RC n k w C M q σ) (hW : Wf n k w C M) (hP : Pr σ l) (hl : ∀ x, x ∈ l → x < n) : wp (lp 5000 (fun (s1 : Int32 × St) => (if s1.2.1 1 1 ≤ s1.1 then some (.inr s1.2) else ((c_X3_expectAsItIs s1.2 s1.1).bind fun v9 => ((lp 5000 (fun (s11 : Int32 × St) => (if s11.2.1 19 0 ≤ s11.1 then some (.inr s11.2) else ((ix s1.1 6).bind fun j19 => ((ix s11.1 192).bind fun j21 => ((ix (s11.2.1 20 j21) 192).bind fun j23 => ((ix s11.1 192).bind fun j25 => some (.inl ((s11.1 + 1), (sL s11.2 (4 + j19) j25 (s11.2.2 27 j23)))))))))) ((0 : Int32), v9)).bind fun (r12 : St) => some (.inl ((s1.1 + 1), r12)))))) ((0 : Int32), σ)) (fun τ => τ.1 = σ.1 ∧ (∀ j, j ≠ 27 → ¬ (4 ≤ j ∧ j < 4 + k) → τ.2 j = σ.2 j) ∧ (∀ c i, c < k → i < l.length → τ.2 (4 + c) i = C c (l.getD i 0)) ∧ ∀ c i, c < k → l.length ≤ i → τ.2 (4 + c) i = σ.2 (4 + c) i) := by
  have hn := hW.hn
  have hk : k ≤ 6 := by
    by_cases g : k = 0
    · omega
    · have := hW.c6 (show k - 1 < k by omega); omega
  refine wp_lp k (fun x (z : Int32 × St) => z.1 = nI x ∧ z.2.1 = σ.1 ∧ (∀ j, j ≠ 27 → ¬ (4 ≤ j ∧ j < 4 + x) → z.2.2 j = σ.2 j) ∧ (∀ c i, c < x → i < l.length → z.2.2 (4 + c) i = C c (l.getD i 0)) ∧ ∀ c i, c < x → l.length ≤ i → z.2.2 (4 + c) i = σ.2 (4 + c) i) (by omega) ⟨rfl, rfl, fun _ _ _ => rfl, fun c i h => absurd h (by omega), fun c i h => absurd h (by omega)⟩ (fun x z hx hJ => ?_) (fun z hJ => ?_)
  · obtain ⟨z1, τ⟩ := z
    obtain ⟨e1, h1, h2, h3, h4⟩ := hJ
    simp only at e1 h1 h2 h3 h4
    subst e1
    have ex := h2 (4 + x) (by omega) (by omega)
    have er : τ.1 1 0 = nI n := by rw [h1]; exact hC.rows
    have e2 := expectAs_eq (σ := τ) er hn (show x < 6 by omega)
    have e3 := acol_eq (σ := σ) (τ := fL τ 27 0 (τ.2 (4 + x)) n) (c := x) (show τ.1 = σ.1 from h1) hP hn hl (show x < 6 by omega) (fun i hi => by rw [fL_in0 hi, ex])
    refine ⟨Sum.inl (nI (x + 1), fL (fL τ 27 0 (τ.2 (4 + x)) n) (4 + x) 0 (fun i => σ.2 (4 + x) (l.getD i 0)) l.length), ?_, ⟨rfl, h1, fun j g1 g2 => ?_, fun c i g1 g2 => ?_, fun c i g1 g2 => ?_⟩⟩
    · show (if τ.1 1 1 ≤ nI x then _ else (c_X3_expectAsItIs τ (nI x)).bind _) = _
      rw [h1, hC.cols, if_neg (ltL k (by omega) hx), e2, Option.bind_some]
      show (lp 5000 _ _).bind _ = _
      rw [e3, Option.bind_some, nI_s]
    · show (fL (fL τ 27 0 (τ.2 (4 + x)) n) (4 + x) 0 (fun i => σ.2 (4 + x) (l.getD i 0)) l.length).2 j = _
      rw [fL_ne (by omega), fL_ne g1]
      exact h2 j g1 (by omega)
    · show (fL (fL τ 27 0 (τ.2 (4 + x)) n) (4 + x) 0 (fun i => σ.2 (4 + x) (l.getD i 0)) l.length).2 (4 + c) i = _
      by_cases g : c = x
      · subst g
        rw [fL_in0 g2]
        exact hC.cell hx (getD_lt hl g2)
      · rw [fL_ne (by omega), fL_ne (by omega)]
        exact h3 c i (by omega) g2
    · show (fL (fL τ 27 0 (τ.2 (4 + x)) n) (4 + x) 0 (fun i => σ.2 (4 + x) (l.getD i 0)) l.length).2 (4 + c) i = _
      rw [fL_out (by omega), fL_ne (by omega)]
      by_cases g : c = x
      · subst g
        exact congrFun ex i
      · exact h4 c i (by omega) g2
  · obtain ⟨z1, τ⟩ := z
    obtain ⟨e1, h1, h2, h3, h4⟩ := hJ
    simp only at e1 h1 h2 h3 h4
    subst e1
    refine ⟨Sum.inr τ, ?_, ⟨h1, h2, h3, h4⟩⟩
    show (if τ.1 1 1 ≤ nI k then _ else _) = _
    rw [h1, hC.cols, if_pos (geL k (by omega))]
end ARR
