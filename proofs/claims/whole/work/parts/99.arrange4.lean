/-! ===== the class's arrange ===== -/
def mArS (l : List Nat) (M : Nat → Nat → Bool) (x : Nat) : Nat → Nat → Bool := fun a r => if a < x then mArr l M a r else M a r
section AR4
variable {n k : Nat} {w : Nat → Nat} {C : Nat → Nat → Int64} {M : Nat → Nat → Bool} {q : Int32} {σ τ : St} {l : List Nat} {m : Nat}
theorem mArS_0 : mArS l M 0 = M := funext fun a => funext fun r => if_neg (by omega)
theorem mArS_at (x : Nat) : mArr l (mArS l M x) x = mArr l M x := funext fun r => by
  unfold mArr mArS
  rw [if_neg (by omega)]
theorem mArS_s (x : Nat) : upM (mArS l M x) x (mArr l M x) = mArS l M (x + 1) := funext fun a => funext fun r => by
  unfold upM mArS
  by_cases e : a = x
  · subst e; rw [if_pos rfl, if_pos (by omega)]
  · rw [if_neg e]
    by_cases g : a < x
    · rw [if_pos g, if_pos (by omega)]
    · rw [if_neg g, if_neg (by omega)]
theorem mArS_wf (hW : Wf n k w C M) (hln : l.length ≤ n) (x : Nat) : Wf n k w C (mArS l M x) := by
  obtain ⟨g1, g2, g3, g4, g5⟩ := hW
  refine ⟨g1, g2, g3, g4, fun m r hm hr => ?_⟩
  unfold mArS at hr
  by_cases g : m < x
  · rw [if_pos g] at hr
    unfold mArr at hr
    rw [Bool.and_eq_true, decide_eq_true_eq] at hr
    omega
  · rw [if_neg g] at hr; exact g5 m r hm hr
theorem amasks_wp (hC : RC n k w C M q σ) (hW : Wf n k w C M) (hP : Pr σ l) (hl : ∀ x, x ∈ l → x < n) (hln : l.length ≤ n) : wp (lp 5000 (fun (s28 : Int32 × St) => (if (8 : Int32) ≤ s28.1 then some (.inr s28.2) else ((c_X3_begin s28.2).bind fun v36 => ((lp 5000 (fun (s38 : Int32 × St) => (if s38.2.1 19 0 ≤ s38.1 then some (.inr s38.2) else ((ix s38.1 192).bind fun j46 => ((c_X1_isUnder s38.2 (s38.2.1 20 j46) s28.1).bind fun v48 => ((if v48 = 0 then some s38.2 else ((c_X3_include s38.2 s38.1).bind fun v54 => some v54)).bind fun (t50 : St) => some (.inl ((s38.1 + 1), t50))))))) ((0 : Int32), v36)).bind fun (r39 : St) => ((c_X3_become r39 s28.1).bind fun v56 => some (.inl ((s28.1 + 1), v56.2))))))) ((0 : Int32), σ)) (fun τ => RC n k w C (mArS l M 8) q τ ∧ Pr τ l) := by
  refine wp_lp 8 (fun x (z : Int32 × St) => z.1 = nI x ∧ RC n k w C (mArS l M x) q z.2 ∧ Pr z.2 l) (by decide) ⟨rfl, by rw [mArS_0]; exact hC, hP⟩ (fun x z hx hJ => ?_) (fun z hJ => ?_)
  · obtain ⟨z1, τ⟩ := z
    obtain ⟨e1, h1, h2⟩ := hJ
    simp only at e1 h1 h2
    subst e1
    obtain ⟨τ2, e2, h3, h4⟩ := ain_wp h1 (mArS_wf hW hln x) h2 hl hln hx
    rw [mArS_at] at h4
    refine ⟨Sum.inl (nI (x + 1), fL τ2 (11 + x) 0 (τ2.2 26) 3), ?_, rfl, ?_, ?_⟩
    · show (if (8 : Int32) ≤ nI x then _ else (c_X3_begin τ).bind _) = _
      rw [if_neg (show ¬ (8 : Int32) ≤ nI x from nI_ge (b := 8) hx (by decide)), begin_eq, Option.bind_some]
      show (lp 5000 _ _).bind _ = _
      rw [e2, Option.bind_some, become_eq hx h4, Option.bind_some, nI_s]
    · show RC n k w C (mArS l M (x + 1)) q (fL τ2 (11 + x) 0 (τ2.2 26) 3)
      rw [← mArS_s]
      exact (h1.oc (i := 26) (by decide) h3).newMask hx h4
    · exact h2.of (show (fL τ2 (11 + x) 0 (τ2.2 26) 3).1 19 = τ.1 19 from (h3 19 (by decide)).1) (show (fL τ2 (11 + x) 0 (τ2.2 26) 3).1 20 = τ.1 20 from (h3 20 (by decide)).1)
  · obtain ⟨z1, τ⟩ := z
    obtain ⟨e1, h1, h2⟩ := hJ
    simp only at e1 h1 h2
    subst e1
    exact wp_eq (if_pos (show (8 : Int32) ≤ nI 8 by decide)) ⟨h1, h2⟩
theorem arrange_wp (hC : RC n k w C M q σ) (hW : Wf n k w C M) (hP : Pr σ l) (hl : ∀ x, x ∈ l → x < n) (hln : l.length ≤ n) : wp (c_X3_arrange σ) (fun p => p.1 = nI (fb_ct (els l) l.length) ∧ RC l.length k w (cArr l C) (mArr l M) q p.2) := by
  unfold c_X3_arrange
  refine wp_bm (acols_wp hC hW hP hl) (fun τ hτ => ?_)
  obtain ⟨g1, g2, g3, g4⟩ := hτ
  have hC1 := acols_rc hC hW.hk g1 g2 g3 g4
  have hP1 : Pr τ l := hP.of (by rw [g1]) (by rw [g1])
  refine wp_bm (amasks_wp hC1 (cArr_wf hW hl) hP1 hl hln) (fun t ht => ?_)
  obtain ⟨h1, h2⟩ := ht
  rw [h2.1]
  have hP2 : Pr (sI t 1 0 (nI l.length)) l := h2.of (sI_ne (by decide)) (sI_ne (by decide))
  rw [elsewhere_eq hP2 hW.hn hl, Option.bind_some]
  have hk := hW.hk
  refine wp_some ⟨rfl, ⟨hk, sIs⟩, ?_, ?_, fun c hc => ?_, fun c r hc hr => h1.cell hc (by omega), fun m r hm hr => ?_⟩
  · rw [sIn (Or.inr (by decide))]; exact h1.cols
  · rw [sIn (Or.inl (by decide))]; exact h1.kept
  · rw [sIn (Or.inl (by decide))]; exact h1.wid hc
  · have := h1.bit hm hr
    unfold mArS at this
    rw [if_pos hm] at this
    exact this
end AR4
