theorem cp6 : cpn (6 : Int32) 6 6 = some 6 := by decide
theorem cp192 : cpn (192 : Int32) 192 192 = some 192 := by decide
theorem cp3 : cpn (3 : Int32) 3 3 = some 3 := by decide
/-- rows a .. of n places come from 18 cells on, i of them done -/
def likeG (τ : St) (a n i : Nat) : St := (τ.1, fun c b => if a ≤ c ∧ c < a + i ∧ b < n then τ.2 (c + 18) b else τ.2 c b)
theorem likeG_step (τ : St) (a n i : Nat) (hi : i < 18) : cpL (likeG τ a n i) (a + 18 + i) (a + i) n = likeG τ a n (i + 1) := by
  unfold cpL likeG
  refine Prod.ext rfl ?_
  funext c b
  show (if c = a + i ∧ b < n then (if a ≤ a + 18 + i ∧ a + 18 + i < a + i ∧ b < n then τ.2 (a + 18 + i + 18) b else τ.2 (a + 18 + i) b) else (if a ≤ c ∧ c < a + i ∧ b < n then τ.2 (c + 18) b else τ.2 c b)) = (if a ≤ c ∧ c < a + (i + 1) ∧ b < n then τ.2 (c + 18) b else τ.2 c b)
  rw [if_neg (show ¬ (a ≤ a + 18 + i ∧ a + 18 + i < a + i ∧ b < n) by omega)]
  by_cases h1 : c = a + i ∧ b < n
  · rw [if_pos h1, if_pos (by omega), show a + 18 + i = c + 18 by omega]
  · rw [if_neg h1]
    by_cases h2 : a ≤ c ∧ c < a + i ∧ b < n
    · rw [if_pos h2, if_pos (by omega)]
    · rw [if_neg h2, if_neg (by omega)]
theorem likeG_0 (τ : St) (a n : Nat) : likeG τ a n 0 = τ := by
  unfold likeG
  refine Prod.ext rfl ?_
  funext c b
  show (if a ≤ c ∧ c < a + 0 ∧ b < n then τ.2 (c + 18) b else τ.2 c b) = τ.2 c b
  rw [if_neg (by omega)]
def likeR (σ : St) : St := likeG (likeG (cpI (sI (sI σ 0 0 (σ.1 18 0)) 0 1 ((sI σ 0 0 (σ.1 18 0)).1 18 1)) 19 1 6) 3 192 6) 10 3 8
theorem like_eq (σ : St) : c_X1_becomeLike σ = some (likeR σ) := by
  unfold c_X1_becomeLike
  simp only [cp6, Option.bind_some]
  generalize hτ : cpI (sI (sI σ 0 0 (σ.1 18 0)) 0 1 ((sI σ 0 0 (σ.1 18 0)).1 18 1)) 19 1 6 = τ
  have h1 := lp_up (f := fun (s3 : Int32 × St) => (if (6 : Int32) ≤ s3.1 then some (.inr s3.2) else ((ix s3.1 6).bind fun j11 => ((ix s3.1 6).bind fun j13 => ((cpn (192 : Int32) 192 192).bind fun k15 => some (.inl ((s3.1 + 1), (cpL s3.2 (21 + j11) (3 + j13) k15)))))))) (fun i => (nI i, likeG τ 3 192 i)) 6 (likeG τ 3 192 6) (fun i hi => by
    show (if nI 6 ≤ nI i then _ else _) = _
    rw [if_neg (fun h => absurd ((nI_leI (by decide) (by omega)).mp h) (by omega))]
    show ((ix (nI i) 6).bind _) = _
    rw [ix_nI hi (by decide), cp192]
    show some (Sum.inl (nI i + 1, cpL (likeG τ 3 192 i) (21 + i) (3 + i) 192)) = _
    rw [nI_1, show 21 + i = 3 + 18 + i by omega, likeG_step τ 3 192 i (by omega)]) (by
    show (if nI 6 ≤ nI 6 then _ else _) = _
    rw [if_pos ((nI_leI (by decide) (by decide)).mpr (Nat.le_refl 6))]) 5000 0 (by decide) (by decide)
  have h1' : lp 5000 (fun (s3 : Int32 × St) => (if (6 : Int32) ≤ s3.1 then some (.inr s3.2) else ((ix s3.1 6).bind fun j11 => ((ix s3.1 6).bind fun j13 => ((cpn (192 : Int32) 192 192).bind fun k15 => some (.inl ((s3.1 + 1), (cpL s3.2 (21 + j11) (3 + j13) k15)))))))) ((0 : Int32), τ) = some (likeG τ 3 192 6) := by
    rw [← h1]
    show _ = lp 5000 _ (nI 0, likeG τ 3 192 0)
    rw [likeG_0]
    rfl
  simp only [h1', Option.bind_some]
  have h2 := lp_up (f := fun (s17 : Int32 × St) => (if (8 : Int32) ≤ s17.1 then some (.inr s17.2) else ((ix s17.1 8).bind fun j25 => ((ix s17.1 8).bind fun j27 => ((cpn (3 : Int32) 3 3).bind fun k29 => some (.inl ((s17.1 + 1), (cpL s17.2 (28 + j25) (10 + j27) k29)))))))) (fun i => (nI i, likeG (likeG τ 3 192 6) 10 3 i)) 8 (likeG (likeG τ 3 192 6) 10 3 8) (fun i hi => by
    show (if nI 8 ≤ nI i then _ else _) = _
    rw [if_neg (fun h => absurd ((nI_leI (by decide) (by omega)).mp h) (by omega))]
    show ((ix (nI i) 8).bind _) = _
    rw [ix_nI hi (by decide), cp3]
    show some (Sum.inl (nI i + 1, cpL (likeG (likeG τ 3 192 6) 10 3 i) (28 + i) (10 + i) 3)) = _
    rw [nI_1, show 28 + i = 10 + 18 + i by omega, likeG_step (likeG τ 3 192 6) 10 3 i (by omega)]) (by
    show (if nI 8 ≤ nI 8 then _ else _) = _
    rw [if_pos ((nI_leI (by decide) (by decide)).mpr (Nat.le_refl 8))]) 5000 0 (by decide) (by decide)
  have h2' : lp 5000 (fun (s17 : Int32 × St) => (if (8 : Int32) ≤ s17.1 then some (.inr s17.2) else ((ix s17.1 8).bind fun j25 => ((ix s17.1 8).bind fun j27 => ((cpn (3 : Int32) 3 3).bind fun k29 => some (.inl ((s17.1 + 1), (cpL s17.2 (28 + j25) (10 + j27) k29)))))))) ((0 : Int32), likeG τ 3 192 6) = some (likeG (likeG τ 3 192 6) 10 3 8) := by
    rw [← h2]
    show _ = lp 5000 _ (nI 0, likeG (likeG τ 3 192 6) 10 3 0)
    rw [likeG_0]
    rfl
  simp only [h2', Option.bind_some]
  rw [← hτ]
  rfl
/-- how many places a cell of a lay-out has -/
def lenOf (Y : Ly) (i : Nat) : Nat := match Y.2.1 i with
  | (3, _) => (Y.2.2.1 i).length
  | (_, n) => n
theorem fvs_cg (E : Ev) (σ σ' : St) (i : Nat) : ∀ (l : List (Option Nat)) (k : Nat), (∀ j, k ≤ j → j < k + l.length → σ'.1 i j = σ.1 i j) → fvs E σ' i k l = fvs E σ i k l
  | [], _, _ => rfl
  | some j :: l, k, h => by
    show _ :: _ = _ :: _
    rw [fvs_cg E σ σ' i l (k + 1) (fun j h1 h2 => h j (by omega) (by rw [List.length_cons]; omega))]
  | none :: l, k, h => by
    show _ :: _ = _ :: _
    rw [fvs_cg E σ σ' i l (k + 1) (fun j h1 h2 => h j (by omega) (by rw [List.length_cons]; omega)), h k (Nat.le_refl _) (by rw [List.length_cons]; omega)]
/-- what lies beyond a cell's places doesn't matter -/
theorem at_cg {Y : Ly} {E : Ev} {σ σ' : St} {i : Nat} {H : Heap} {a : Nat} (h1 : ∀ j, j < lenOf Y i → σ'.1 i j = σ.1 i j) (h2 : ∀ j, j < lenOf Y i → σ'.2 i j = σ.2 i j) (h : va_at E.1 vcl (a, cellOf Y E σ i) H) : va_at E.1 vcl (a, cellOf Y E σ' i) H := by
  unfold lenOf at h1 h2
  unfold cellOf at h ⊢
  generalize Y.2.1 i = z at h h1 h2 ⊢
  obtain ⟨t, n⟩ := z
  match t, h, h1, h2 with
  | 0, h, h1, h2 =>
    have h' : H[a]? = some (vp_cell (E.2.1 0) (n, .inr (.inl (σ.2 i)))) := h
    show H[a]? = some (vp_cell (E.2.1 0) (n, .inr (.inl (σ'.2 i))))
    rw [h', vp_cell_l, vp_cell_l]
    exact congrArg some (arrV_cg (fun j hj => by rw [h2 j hj]))
  | 1, h, h1, h2 =>
    have h' : H[a]? = some (vp_cell (E.2.1 1) (n, .inl (σ.1 i))) := h
    show H[a]? = some (vp_cell (E.2.1 1) (n, .inl (σ'.1 i)))
    rw [h', vp_cell_i, vp_cell_i]
    exact congrArg some (arrV_cg (fun j hj => by rw [h1 j hj]))
  | 2, h, h1, h2 =>
    have h' : H[a]? = some (vp_cell (E.2.1 2) (n, .inl (σ.1 i))) := h
    show H[a]? = some (vp_cell (E.2.1 2) (n, .inl (σ'.1 i)))
    rw [h', vp_cell_i, vp_cell_i]
    exact congrArg some (arrV_cg (fun j hj => by rw [h1 j hj]))
  | 3, h, h1, h2 =>
    have e := fvs_cg E σ σ' i (Y.2.2.1 i) 0 (fun j _ hj => h1 j (by rw [Nat.zero_add] at hj; exact hj))
    show va_at E.1 vcl (a, .inr (n, fvs E σ' i 0 (Y.2.2.1 i))) H
    rw [e]
    exact h
  | t + 4, h, h1, h2 => exact h
