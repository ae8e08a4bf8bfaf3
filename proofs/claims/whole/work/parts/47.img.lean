/-! images: the class's world, the law's out array, the row of images, the images' tables -/
abbrev Im : Type := Nat → Option ((Nat → Nat) × St)
abbrev eT (E : Ev) (ad : Nat → Nat) : Ev := (E.1, E.2.1, ad)
def imcell (E : Ev) (I : Im) : va_E := .inl (E.2.1 4, 2, .inr (.inr (.inr (.inr (fun k => (I k).map (fun p => p.1 0))))))
def adx (E : Ev) (I : Im) (n : Nat) : Option Nat := if n < 29 then some (E.2.2 n) else if n = 40 then some (E.2.2 40) else if n < 50 then none else if n < 68 then (I 0).map (fun p => p.1 (n - 50)) else if n < 70 then none else if n < 88 then (I 1).map (fun p => p.1 (n - 70)) else none
def AS (E : Ev) (I : Im) (base : Nat) : Prop := (∀ m n a, adx E I m = some a → adx E I n = some a → m = n) ∧ ∀ n a, adx E I n = some a → base ≤ a
def WP (E : Ev) (σ : St) (I : Im) (H : Heap) : Prop := va_P E.1 vcl (wsOf YO E σ) H ∧ va_at E.1 vcl (E.2.2 40, imcell E I) H ∧ ∀ k ad τ, k < 2 → I k = some (ad, τ) → va_P E.1 vcl (wsOf YT (eT E ad) τ) H
def AI (E : Ev) (I : Im) (sz : Nat) : Nat → Prop := fun q => (∃ n, adx E I n = some q) ∨ sz ≤ q
def upI (I : Im) (k : Nat) (p : (Nat → Nat) × St) : Im := fun j => if j = k then some p else I j
def tb (σ : St) : St := (fun i => σ.1 (i + 1), fun i => σ.2 (i + 1))
def ub (σ τ : St) : St := (fun i => if 1 ≤ i ∧ i ≤ 18 then τ.1 (i - 1) else σ.1 i, fun i => if 1 ≤ i ∧ i ≤ 18 then τ.2 (i - 1) else σ.2 i)
theorem adx_lo {E : Ev} {I : Im} {n : Nat} (h : n < 29) : adx E I n = some (E.2.2 n) := if_pos h
theorem adx_40 {E : Ev} {I : Im} : adx E I 40 = some (E.2.2 40) := rfl
theorem adx_im {E : Ev} {I : Im} {k i : Nat} {ad : Nat → Nat} {τ : St} (hk : k < 2) (hi : i < 18) (h : I k = some (ad, τ)) : adx E I (50 + 20 * k + i) = some (ad i) := by
  unfold adx
  match k, hk with
  | 0, _ =>
    rw [if_neg (by omega), if_neg (by omega), if_neg (by omega), if_pos (by omega), h, show 50 + 20 * 0 + i - 50 = i by omega]
    rfl
  | 1, _ =>
    rw [if_neg (by omega), if_neg (by omega), if_neg (by omega), if_neg (by omega), if_neg (by omega), if_pos (by omega), h, show 50 + 20 * 1 + i - 70 = i by omega]
    rfl
theorem adx_inv {E : Ev} {I : Im} {n a : Nat} (h : adx E I n = some a) : (n < 29 ∧ a = E.2.2 n) ∨ (n = 40 ∧ a = E.2.2 40) ∨ ∃ k i ad τ, k < 2 ∧ i < 18 ∧ n = 50 + 20 * k + i ∧ I k = some (ad, τ) ∧ a = ad i := by
  unfold adx at h
  split at h
  · exact Or.inl ⟨by assumption, (Option.some.inj h).symm⟩
  · split at h
    · exact Or.inr (Or.inl ⟨by assumption, (Option.some.inj h).symm⟩)
    · split at h
      · cases h
      · split at h
        · cases hI : I 0 with
          | none => rw [hI] at h; cases h
          | some p =>
            rw [hI] at h
            obtain ⟨ad, τ⟩ := p
            exact Or.inr (Or.inr ⟨0, n - 50, ad, τ, by decide, by omega, by omega, hI, (Option.some.inj h).symm⟩)
        · split at h
          · cases h
          · split at h
            · cases hI : I 1 with
              | none => rw [hI] at h; cases h
              | some p =>
                rw [hI] at h
                obtain ⟨ad, τ⟩ := p
                exact Or.inr (Or.inr ⟨1, n - 70, ad, τ, by decide, by omega, by omega, hI, (Option.some.inj h).symm⟩)
            · cases h
theorem AS.O {E : Ev} {I : Im} {base : Nat} (h : AS E I base) : Adr YO E base := ⟨fun i j hi hj e => h.1 i j _ (adx_lo hi) (by rw [adx_lo (show j < 29 from hj), e]), fun i hi => h.2 i _ (adx_lo hi)⟩
/-- every cell of the world lies in the heap -/
theorem WP.lt {E : Ev} {σ : St} {I : Im} {H : Heap} (h : WP E σ I H) {n a : Nat} (hn : adx E I n = some a) : a < H.size := by
  rcases adx_inv hn with ⟨h1, rfl⟩ | ⟨h1, rfl⟩ | ⟨k, i, ad, τ, hk, hi, -, hI, rfl⟩
  · exact (wsP.mp h.1 n h1).lt
  · exact h.2.1.lt
  · exact (wsP.mp (h.2.2 k ad τ hk hI) i hi).lt
theorem WP.kept {E : Ev} {σ : St} {I : Im} {H H1 : Heap} (h : WP E σ I H) (hk : ∀ n a, adx E I n = some a → H1[a]? = H[a]?) : WP E σ I H1 := by
  refine ⟨wsP.mpr fun i hi => (wsP.mp h.1 i hi).kept (hk i _ (adx_lo hi)), h.2.1.kept (hk 40 _ rfl), fun k ad τ hk2 hI => wsP.mpr fun i hi => (wsP.mp (h.2.2 k ad τ hk2 hI) i hi).kept (hk _ _ (adx_im hk2 hi hI))⟩
/-- a table's cells, seen as the class's and as a table's own -/
theorem cellT {E : Ev} {σ : St} {i : Nat} (h : i < 18) : cellOf YT (eT E (fun i => E.2.2 (i + 1))) (tb σ) i = cellOf YC E σ (i + 1) := by
  match i, h with
  | 0, _ => rfl
  | 1, _ => rfl
  | 2, _ =>
    show (Sum.inl (E.2.1 3, 6, .inr (.inr (.inr (.inr (fun k => some (E.2.2 (3 + k + 1))))))) : va_E) = Sum.inl (E.2.1 3, 6, .inr (.inr (.inr (.inr (fun k => some (E.2.2 (4 + k)))))))
    have e : (fun k => some (E.2.2 (3 + k + 1))) = fun k => some (E.2.2 (4 + k)) := by funext k; rw [show 3 + k + 1 = 4 + k by omega]
    rw [e]
  | 3, _ => rfl
  | 4, _ => rfl
  | 5, _ => rfl
  | 6, _ => rfl
  | 7, _ => rfl
  | 8, _ => rfl
  | 9, _ =>
    show (Sum.inl (E.2.1 3, 8, .inr (.inr (.inr (.inr (fun k => some (E.2.2 (10 + k + 1))))))) : va_E) = Sum.inl (E.2.1 3, 8, .inr (.inr (.inr (.inr (fun k => some (E.2.2 (11 + k)))))))
    have e : (fun k => some (E.2.2 (10 + k + 1))) = fun k => some (E.2.2 (11 + k)) := by funext k; rw [show 10 + k + 1 = 11 + k by omega]
    rw [e]
  | 10, _ => rfl
  | 11, _ => rfl
  | 12, _ => rfl
  | 13, _ => rfl
  | 14, _ => rfl
  | 15, _ => rfl
  | 16, _ => rfl
  | 17, _ => rfl
  | n + 18, h => exact absurd h (by omega)
/-- two tables side by side -/
def eB2 (E : Ev) (a1 a2 : Nat → Nat) : Ev := eT E (fun i => if i < 18 then a1 i else a2 (i - 18))
def sB2 (τ1 τ2 : St) : St := (fun i => if i < 18 then τ1.1 i else τ2.1 (i - 18), fun i => if i < 18 then τ1.2 i else τ2.2 (i - 18))
theorem cellB1 {E : Ev} {a1 a2 : Nat → Nat} {τ1 τ2 : St} {i : Nat} (h : i < 18) : ∀ H a, va_at E.1 vcl (a, cellOf YB (eB2 E a1 a2) (sB2 τ1 τ2) i) H ↔ va_at E.1 vcl (a, cellOf YT (eT E a1) τ1 i) H := by
  intro H a
  match i, h with
  | 0, _ => exact Iff.rfl
  | 1, _ => exact Iff.rfl
  | 2, _ =>
    show H[a]? = some (vp_cell (E.2.1 3) (6, .inr (.inr (.inr (.inr (fun k => some (if 3 + k < 18 then a1 (3 + k) else a2 (3 + k - 18)))))))) ↔ H[a]? = some (vp_cell (E.2.1 3) (6, .inr (.inr (.inr (.inr (fun k => some (a1 (3 + k))))))))
    rw [vp_cell_q, vp_cell_q, arrV_cg (f := fun j => va_rf (some (if 3 + j < 18 then a1 (3 + j) else a2 (3 + j - 18)))) (g := fun j => va_rf (some (a1 (3 + j)))) (fun j hj => by rw [if_pos (by omega)])]
  | 3, _ => exact Iff.rfl
  | 4, _ => exact Iff.rfl
  | 5, _ => exact Iff.rfl
  | 6, _ => exact Iff.rfl
  | 7, _ => exact Iff.rfl
  | 8, _ => exact Iff.rfl
  | 9, _ =>
    show H[a]? = some (vp_cell (E.2.1 3) (8, .inr (.inr (.inr (.inr (fun k => some (if 10 + k < 18 then a1 (10 + k) else a2 (10 + k - 18)))))))) ↔ H[a]? = some (vp_cell (E.2.1 3) (8, .inr (.inr (.inr (.inr (fun k => some (a1 (10 + k))))))))
    rw [vp_cell_q, vp_cell_q, arrV_cg (f := fun j => va_rf (some (if 10 + j < 18 then a1 (10 + j) else a2 (10 + j - 18)))) (g := fun j => va_rf (some (a1 (10 + j)))) (fun j hj => by rw [if_pos (by omega)])]
  | 10, _ => exact Iff.rfl
  | 11, _ => exact Iff.rfl
  | 12, _ => exact Iff.rfl
  | 13, _ => exact Iff.rfl
  | 14, _ => exact Iff.rfl
  | 15, _ => exact Iff.rfl
  | 16, _ => exact Iff.rfl
  | 17, _ => exact Iff.rfl
  | n + 18, h => exact absurd h (by omega)
theorem cellB2 {E : Ev} {a1 a2 : Nat → Nat} {τ1 τ2 : St} {i : Nat} (h : i < 18) : cellOf YB (eB2 E a1 a2) (sB2 τ1 τ2) (18 + i) = cellOf YT (eT E a2) τ2 i := by
  match i, h with
  | 0, _ => rfl
  | 1, _ => rfl
  | 2, _ =>
    show (Sum.inl (E.2.1 3, 6, .inr (.inr (.inr (.inr (fun k => some (if 21 + k < 18 then a1 (21 + k) else a2 (21 + k - 18))))))) : va_E) = Sum.inl (E.2.1 3, 6, .inr (.inr (.inr (.inr (fun k => some (a2 (3 + k)))))))
    have e : (fun k => some (if 21 + k < 18 then a1 (21 + k) else a2 (21 + k - 18))) = fun k => some (a2 (3 + k)) := by funext k; rw [if_neg (by omega), show 21 + k - 18 = 3 + k by omega]
    rw [e]
  | 3, _ => rfl
  | 4, _ => rfl
  | 5, _ => rfl
  | 6, _ => rfl
  | 7, _ => rfl
  | 8, _ => rfl
  | 9, _ =>
    show (Sum.inl (E.2.1 3, 8, .inr (.inr (.inr (.inr (fun k => some (if 28 + k < 18 then a1 (28 + k) else a2 (28 + k - 18))))))) : va_E) = Sum.inl (E.2.1 3, 8, .inr (.inr (.inr (.inr (fun k => some (a2 (10 + k)))))))
    have e : (fun k => some (if 28 + k < 18 then a1 (28 + k) else a2 (28 + k - 18))) = fun k => some (a2 (10 + k)) := by funext k; rw [if_neg (by omega), show 28 + k - 18 = 10 + k by omega]
    rw [e]
  | 10, _ => rfl
  | 11, _ => rfl
  | 12, _ => rfl
  | 13, _ => rfl
  | 14, _ => rfl
  | 15, _ => rfl
  | 16, _ => rfl
  | 17, _ => rfl
  | n + 18, h => exact absurd h (by omega)
theorem like_hi {σ : St} {i : Nat} (h : 18 ≤ i) : (likeR σ).1 i = σ.1 i ∧ (likeR σ).2 i = σ.2 i := by
  constructor
  · funext b
    show (if i = 1 ∧ b < 6 then _ else (if i = 0 ∧ b = 1 then _ else (if i = 0 ∧ b = 0 then _ else σ.1 i b))) = σ.1 i b
    rw [if_neg (by omega), if_neg (by omega), if_neg (by omega)]
  · funext b
    show (if 10 ≤ i ∧ i < 10 + 8 ∧ b < 3 then _ else (if 3 ≤ i ∧ i < 3 + 6 ∧ b < 192 then _ else σ.2 i b)) = σ.2 i b
    rw [if_neg (by omega), if_neg (by omega)]
theorem lG_in {τ : St} {a n i c b : Nat} (h : a ≤ c ∧ c < a + i ∧ b < n) : (likeG τ a n i).2 c b = τ.2 (c + 18) b := if_pos h
theorem lG_out {τ : St} {a n i c b : Nat} (h : ¬ (a ≤ c ∧ c < a + i ∧ b < n)) : (likeG τ a n i).2 c b = τ.2 c b := if_neg h
theorem like_row {σ : St} {j b : Nat} (h : j < 6) (hb : b < 192) : (likeR σ).2 (3 + j) b = σ.2 (21 + j) b := by
  unfold likeR
  rw [lG_out (by omega), lG_in (by omega), show 3 + j + 18 = 21 + j by omega]
  rfl
theorem like_msk {σ : St} {j b : Nat} (h : j < 8) (hb : b < 3) : (likeR σ).2 (10 + j) b = σ.2 (28 + j) b := by
  unfold likeR
  rw [lG_in (by omega), lG_out (by omega), show 10 + j + 18 = 28 + j by omega]
  rfl
theorem sI_out {σ : St} {i j a b : Nat} {v : Int32} (h : ¬ (a = i ∧ b = j)) : (sI σ i j v).1 a b = σ.1 a b := if_neg h
theorem cpI_in {σ : St} {i j k b : Nat} (h : b < k) : (cpI σ i j k).1 j b = σ.1 i b := if_pos ⟨rfl, h⟩
theorem like_wid {σ : St} {b : Nat} (hb : b < 6) : (likeR σ).1 1 b = σ.1 19 b := by
  unfold likeR
  show (cpI (sI (sI σ 0 0 (σ.1 18 0)) 0 1 ((sI σ 0 0 (σ.1 18 0)).1 18 1)) 19 1 6).1 1 b = _
  rw [cpI_in hb, sI_out (by omega), sI_out (by omega)]
theorem likeB2 {E : Ev} {a1 a2 : Nat → Nat} {τ1 τ2 : St} {i : Nat} (h : i < 18) : cellOf YB (eB2 E a1 a2) (likeR (sB2 τ1 τ2)) (18 + i) = cellOf YT (eT E a2) τ2 i := by
  rw [← cellB2 (E := E) (a1 := a1) (τ1 := τ1) h]
  exact cell_ne (like_hi (by omega)).1 (like_hi (by omega)).2
theorem likeB1 {E : Ev} {a1 a2 : Nat → Nat} {τ1 τ2 : St} {i : Nat} (h : i < 18) (H : Heap) (a : Nat) (hv : va_at E.1 vcl (a, cellOf YB (eB2 E a1 a2) (likeR (sB2 τ1 τ2)) i) H) : va_at E.1 vcl (a, cellOf YT (eT E a1) τ2 i) H := by
  have hrow : ∀ j, j < 6 → va_at E.1 vcl (a, cellOf YB (eB2 E a1 a2) (likeR (sB2 τ1 τ2)) (3 + j)) H → va_at E.1 vcl (a, cellOf YT (eT E a1) τ2 (3 + j)) H := by
    intro j hj h9
    rw [cell_L (rowB0 hj)] at h9 ⊢
    have h9' : H[a]? = some (vp_cell (E.2.1 0) (192, .inr (.inl ((likeR (sB2 τ1 τ2)).2 (3 + j))))) := h9
    show H[a]? = some (vp_cell (E.2.1 0) (192, .inr (.inl (τ2.2 (3 + j)))))
    rw [h9', vp_cell_l, vp_cell_l]
    refine congrArg some (arrV_cg (fun b hb => ?_))
    rw [like_row hj hb]
    show Value.long ((if 21 + j < 18 then τ1.2 (21 + j) else τ2.2 (21 + j - 18)) b) = _
    rw [if_neg (by omega), show 21 + j - 18 = 3 + j by omega]
  have hmsk : ∀ j, j < 8 → va_at E.1 vcl (a, cellOf YB (eB2 E a1 a2) (likeR (sB2 τ1 τ2)) (10 + j)) H → va_at E.1 vcl (a, cellOf YT (eT E a1) τ2 (10 + j)) H := by
    intro j hj h9
    rw [cell_L (mskB0 hj)] at h9 ⊢
    have h9' : H[a]? = some (vp_cell (E.2.1 0) (3, .inr (.inl ((likeR (sB2 τ1 τ2)).2 (10 + j))))) := h9
    show H[a]? = some (vp_cell (E.2.1 0) (3, .inr (.inl (τ2.2 (10 + j)))))
    rw [h9', vp_cell_l, vp_cell_l]
    refine congrArg some (arrV_cg (fun b hb => ?_))
    rw [like_msk hj hb]
    show Value.long ((if 28 + j < 18 then τ1.2 (28 + j) else τ2.2 (28 + j - 18)) b) = _
    rw [if_neg (by omega), show 28 + j - 18 = 10 + j by omega]
  match i, h, hv with
  | 0, _, hv => exact hv
  | 1, _, hv =>
    have h9' : H[a]? = some (vp_cell (E.2.1 1) (6, .inl ((likeR (sB2 τ1 τ2)).1 1))) := hv
    show H[a]? = some (vp_cell (E.2.1 1) (6, .inl (τ2.1 1)))
    rw [h9', vp_cell_i, vp_cell_i]
    refine congrArg some (arrV_cg (fun b hb => ?_))
    rw [like_wid hb]
    rfl
  | 2, _, hv => exact (cellB1 (i := 2) (τ1 := τ2) (τ2 := τ2) (by decide) H a).mp hv
  | 3, _, hv => exact hrow 0 (by decide) hv
  | 4, _, hv => exact hrow 1 (by decide) hv
  | 5, _, hv => exact hrow 2 (by decide) hv
  | 6, _, hv => exact hrow 3 (by decide) hv
  | 7, _, hv => exact hrow 4 (by decide) hv
  | 8, _, hv => exact hrow 5 (by decide) hv
  | 9, _, hv => exact (cellB1 (i := 9) (τ1 := τ2) (τ2 := τ2) (by decide) H a).mp hv
  | 10, _, hv => exact hmsk 0 (by decide) hv
  | 11, _, hv => exact hmsk 1 (by decide) hv
  | 12, _, hv => exact hmsk 2 (by decide) hv
  | 13, _, hv => exact hmsk 3 (by decide) hv
  | 14, _, hv => exact hmsk 4 (by decide) hv
  | 15, _, hv => exact hmsk 5 (by decide) hv
  | 16, _, hv => exact hmsk 6 (by decide) hv
  | 17, _, hv => exact hmsk 7 (by decide) hv
  | n + 18, h, _ => exact absurd h (by omega)
