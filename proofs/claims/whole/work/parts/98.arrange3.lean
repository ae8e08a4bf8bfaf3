/-! ===== one mask put in an order, the class's side ===== -/
section AR3
variable {n k : Nat} {w : Nat → Nat} {C : Nat → Nat → Int64} {M : Nat → Nat → Bool} {q : Int32} {σ τ : St} {l : List Nat} {m : Nat}
theorem ain_wp (hC : RC n k w C M q σ) (hW : Wf n k w C M) (hP : Pr σ l) (hl : ∀ x, x ∈ l → x < n) (hln : l.length ≤ n) (hm : m < 8) : wp (lp 5000 (fun (s38 : Int32 × St) => (if s38.2.1 19 0 ≤ s38.1 then some (.inr s38.2) else ((ix s38.1 192).bind fun j46 => ((c_X1_isUnder s38.2 (s38.2.1 20 j46) (nI m)).bind fun v48 => ((if v48 = 0 then some s38.2 else ((c_X3_include s38.2 s38.1).bind fun v54 => some v54)).bind fun (t50 : St) => some (.inl ((s38.1 + 1), t50))))))) ((0 : Int32), fL σ 26 0 (fun _ => 0) 3)) (fun τ => Oc 26 σ τ ∧ Mk τ (mArr l M m)) := by
  have hn := hW.hn
  have h19 : σ.1 19 0 = nI l.length := hP.1
  refine wp_lp l.length (fun i (z : Int32 × St) => z.1 = nI i ∧ Oc 26 σ z.2 ∧ Mk z.2 (fun r => decide (r < i) && M m (l.getD r 0))) (by omega) ⟨rfl, show Oc 26 σ (fL σ 26 0 (fun _ => 0) 3) from fL_oc, show Mk (fL σ 26 0 (fun _ => 0) 3) _ from fun r hr => by rw [Mk_begin (σ := σ) r hr]; exact (by rw [decide_eq_false (Nat.not_lt_zero r), Bool.false_and] : (false : Bool) = (decide (r < 0) && M m (l.getD r 0)))⟩ (fun i z hi hJ => ?_) (fun z hJ => ?_)
  · obtain ⟨z1, τ⟩ := z
    obtain ⟨e1, h1, h2⟩ := hJ
    simp only at e1 h1 h2
    subst e1
    have hC' := hC.oc (i := 26) (by decide) h1
    have hlt := getD_lt hl hi
    have e19 : τ.1 19 0 = nI l.length := by rw [(h1 19 (by decide)).1]; exact h19
    have e20 : τ.1 20 i = nI (l.getD i 0) := by rw [(h1 20 (by decide)).1]; exact hP.row hi
    simp only [e19, if_neg (ltL l.length (by omega) hi), ix192 (show i < 192 by omega), Option.bind_some, e20, isUnder_eq hC' hm (show l.getD i 0 < 192 by omega), if_bI]
    by_cases e : M m (l.getD i 0) = true
    · rw [if_pos e, include_eq hC' hW (show i < n by omega), Option.bind_some, Option.bind_some, nI_s]
      refine wp_some ⟨rfl, fun j hj => ?_, fun r hr => ?_⟩
      · have g := inc_oc (σ := τ) (r := i) j hj
        exact ⟨g.1.trans (h1 j hj).1, g.2.trans (h1 j hj).2⟩
      · rw [(h2.put (show i < 192 by omega)) r hr]
        show ((decide (r < i) && M m (l.getD r 0)) || decide (r = i)) = (decide (r < i + 1) && M m (l.getD r 0))
        by_cases g : r = i
        · subst g
          rw [decide_eq_true rfl, decide_eq_true (show r < r + 1 by omega), e, Bool.or_true]; rfl
        · rw [decide_eq_false g, Bool.or_false, show decide (r < i + 1) = decide (r < i) from decide_eq_decide.mpr (by omega)]
    · rw [if_neg e, Option.bind_some, nI_s]
      refine wp_some ⟨rfl, h1, fun r hr => ?_⟩
      show lb (τ.2 26 (r / 64)) (r % 64) = _
      rw [h2 r hr]
      show (decide (r < i) && M m (l.getD r 0)) = (decide (r < i + 1) && M m (l.getD r 0))
      by_cases g : r = i
      · subst g
        rw [Bool.not_eq_true] at e
        rw [e, Bool.and_false, Bool.and_false]
      · rw [show decide (r < i + 1) = decide (r < i) from decide_eq_decide.mpr (by omega)]
  · obtain ⟨z1, τ⟩ := z
    obtain ⟨e1, h1, h2⟩ := hJ
    simp only at e1 h1 h2
    subst e1
    have e19 : τ.1 19 0 = nI l.length := by rw [(h1 19 (by decide)).1]; exact h19
    simp only [e19]
    exact wp_eq (if_pos (geL l.length (by omega))) ⟨h1, h2⟩
end AR3
