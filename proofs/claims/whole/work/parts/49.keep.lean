/-! keep and back: worlds -/
theorem mgO_self (σ : St) : mgO σ σ = σ := by
  refine Prod.ext ?_ ?_
  · funext a
    show (if a < 28 then σ.1 a else σ.1 a) = σ.1 a
    split <;> rfl
  · funext a
    show (if a < 28 then σ.2 a else σ.2 a) = σ.2 a
    split <;> rfl
theorem notAx {E : Ev} {I : Im} {base : Nat} {σ : St} {H : Heap} (hA : AS E I base) (h : WP E σ I H) {Y' : Ly} {E' : Ev} (xi : Nat → Nat) (hix : ∀ i, i < Y'.1 → adx E I (xi i) = some (E'.2.2 i)) {n a : Nat} (hn : adx E I n = some a) (hne : ∀ i, i < Y'.1 → xi i ≠ n) : ¬ Ax Y' E' H.size a := by
  rintro (⟨i, h1, h2⟩ | h2)
  · exact hne i h1 (hA.1 (xi i) n a (by rw [hix i h1, h2]) hn)
  · have := h.lt hn
    omega
theorem WP.C {E : Ev} {I : Im} {base : Nat} {σ σ1 : St} {H H1 : Heap} (hA : AS E I base) (h : WP E σ I H) (h1 : va_P E.1 vcl (wsOf YC E σ1) H1) (hk : ∀ q : Nat, q < H.size → ¬ Ax YC E H.size q → H1[q]? = H[q]?) : WP E (mgO σ1 σ) I H1 := by
  have off : ∀ n a, 28 ≤ n → adx E I n = some a → H1[a]? = H[a]? := fun n a hn ha => hk a (h.lt ha) (notAx hA h (fun i => i) (fun i hi => adx_lo (Nat.lt_trans hi (by decide))) ha (fun i hi e => by have : i < 28 := hi; omega))
  refine ⟨YO_up hA.O h.1 h1 hk, h.2.1.kept (off 40 _ (by decide) rfl), fun k ad τ hk2 hI => wsP.mpr fun i hi => (wsP.mp (h.2.2 k ad τ hk2 hI) i hi).kept (off _ _ (by omega) (adx_im hk2 hi hI))⟩
theorem WP.O {E : Ev} {I : Im} {base : Nat} {σ σ1 : St} {H H1 : Heap} (hA : AS E I base) (h : WP E σ I H) (h1 : va_P E.1 vcl (wsOf YO E σ1) H1) (hk : ∀ q : Nat, q < H.size → ¬ Ax YO E H.size q → H1[q]? = H[q]?) : WP E σ1 I H1 := by
  have off : ∀ n a, 29 ≤ n → adx E I n = some a → H1[a]? = H[a]? := fun n a hn ha => hk a (h.lt ha) (notAx hA h (fun i => i) (fun i hi => adx_lo hi) ha (fun i hi e => by have : i < 29 := hi; omega))
  exact ⟨h1, h.2.1.kept (off 40 _ (by decide) rfl), fun k ad τ hk2 hI => wsP.mpr fun i hi => (wsP.mp (h.2.2 k ad τ hk2 hI) i hi).kept (off _ _ (by omega) (adx_im hk2 hi hI))⟩
theorem upI_eq {I : Im} {k : Nat} {p : (Nat → Nat) × St} : upI I k p k = some p := if_pos rfl
theorem upI_ne {I : Im} {k j : Nat} {p : (Nat → Nat) × St} (h : j ≠ k) : upI I k p j = I j := if_neg h
theorem imcell_up {E : Ev} {I : Im} {j : Nat} {ad : Nat → Nat} {τ τ' : St} (h : I j = some (ad, τ)) : imcell E (upI I j (ad, τ')) = imcell E I := by
  unfold imcell
  have e : (fun k => (upI I j (ad, τ') k).map (fun p => p.1 0)) = fun k => (I k).map (fun p => p.1 0) := by
    funext k
    by_cases hk : k = j
    · subst hk; rw [upI_eq, h]; rfl
    · rw [upI_ne hk]
  rw [e]
theorem adx_up {E : Ev} {I : Im} {j : Nat} {ad : Nat → Nat} {τ τ' : St} (h : I j = some (ad, τ)) (n : Nat) : adx E (upI I j (ad, τ')) n = adx E I n := by
  have e : ∀ k m, (upI I j (ad, τ') k).map (fun p => p.1 m) = (I k).map (fun p => p.1 m) := by
    intro k m
    by_cases hk : k = j
    · subst hk; rw [upI_eq, h]; rfl
    · rw [upI_ne hk]
  unfold adx
  rw [e, e]
theorem AS.up {E : Ev} {I : Im} {base j : Nat} {ad : Nat → Nat} {τ τ' : St} (hA : AS E I base) (h : I j = some (ad, τ)) : AS E (upI I j (ad, τ')) base := ⟨fun m n a h1 h2 => hA.1 m n a (by rw [adx_up h] at h1; exact h1) (by rw [adx_up h] at h2; exact h2), fun n a h1 => hA.2 n a (by rw [adx_up h] at h1; exact h1)⟩
abbrev aT (E : Ev) : Nat → Nat := fun i => E.2.2 (i + 1)
theorem eB2_1 {E : Ev} {a1 a2 : Nat → Nat} {i : Nat} (h : i < 18) : (eB2 E a1 a2).2.2 i = a1 i := if_pos h
theorem eB2_2 {E : Ev} {a1 a2 : Nat → Nat} {i : Nat} (h : 18 ≤ i) : (eB2 E a1 a2).2.2 i = a2 (i - 18) := if_neg (by omega)
theorem adx_T {E : Ev} {I : Im} {i : Nat} (h : i < 18) : adx E I (i + 1) = some (aT E i) := adx_lo (by omega)
/-- the world before becomeLike, as the callee sees it -/
theorem WP.two {E : Ev} {I : Im} {σ : St} {H : Heap} (h : WP E σ I H) : va_P E.1 vcl (wsOf YT (eT E (aT E)) (tb σ)) H := wsP.mpr fun i hi => by
  rw [cellT hi, ← cellYO (show i + 1 < 28 by have : i < 18 := hi; omega)]
  exact wsP.mp h.1 (i + 1) (show i + 1 < 29 by have : i < 18 := hi; omega)
theorem wsB {E : Ev} {a1 a2 : Nat → Nat} {τ1 τ2 : St} {H : Heap} (h1 : va_P E.1 vcl (wsOf YT (eT E a1) τ1) H) (h2 : va_P E.1 vcl (wsOf YT (eT E a2) τ2) H) : va_P E.1 vcl (wsOf YB (eB2 E a1 a2) (sB2 τ1 τ2)) H := wsP.mpr fun i hi => by
  by_cases hc : i < 18
  · rw [eB2_1 hc]
    exact (cellB1 hc H _).mpr (wsP.mp h1 i hc)
  · rw [eB2_2 (Nat.le_of_not_lt hc)]
    have hi' : i < 36 := hi
    have h9 := wsP.mp h2 (i - 18) (show i - 18 < 18 by omega)
    rw [← cellB2 (E := E) (a1 := a1) (τ1 := τ1) (show i - 18 < 18 by omega), show 18 + (i - 18) = i by omega] at h9
    exact h9
theorem wsB1 {E : Ev} {a1 a2 : Nat → Nat} {τ1 τ2 : St} {H : Heap} (h : va_P E.1 vcl (wsOf YB (eB2 E a1 a2) (likeR (sB2 τ1 τ2))) H) : va_P E.1 vcl (wsOf YT (eT E a1) τ2) H := wsP.mpr fun i hi => by
  have h9 := wsP.mp h i (Nat.lt_trans hi (by decide))
  rw [eB2_1 hi] at h9
  exact likeB1 hi H _ h9
theorem wsB2 {E : Ev} {a1 a2 : Nat → Nat} {τ1 τ2 : St} {H : Heap} (h : va_P E.1 vcl (wsOf YB (eB2 E a1 a2) (likeR (sB2 τ1 τ2))) H) : va_P E.1 vcl (wsOf YT (eT E a2) τ2) H := wsP.mpr fun i hi => by
  have hi' : i < 18 := hi
  have h9 := wsP.mp h (18 + i) (show 18 + i < 36 by omega)
  rw [eB2_2 (by omega), likeB2 hi, show 18 + i - 18 = i by omega] at h9
  exact h9
/-- the indices of a table's cells -/
theorem xiB {E : Ev} {I : Im} {j : Nat} {ad : Nat → Nat} {τ : St} (hj : j < 2) (hI : I j = some (ad, τ)) : (∀ i, i < YB.1 → adx E I (if i < 18 then 50 + 20 * j + i else i - 18 + 1) = some ((eB2 E ad (aT E)).2.2 i)) ∧ ∀ i, i < YB.1 → adx E I (if i < 18 then i + 1 else 50 + 20 * j + (i - 18)) = some ((eB2 E (aT E) ad).2.2 i) := by
  constructor
  · intro i hi
    have hi' : i < 36 := hi
    by_cases hc : i < 18
    · rw [if_pos hc, eB2_1 hc]; exact adx_im hj hc hI
    · rw [if_neg hc, eB2_2 (by omega)]; exact adx_T (by omega)
  · intro i hi
    have hi' : i < 36 := hi
    by_cases hc : i < 18
    · rw [if_pos hc, eB2_1 hc]; exact adx_T hc
    · rw [if_neg hc, eB2_2 (by omega)]; exact adx_im hj (by omega) hI
theorem WP.K {E : Ev} {I : Im} {base j : Nat} {ad : Nat → Nat} {σ τ : St} {H H1 : Heap} (hA : AS E I base) (hj : j < 2) (hI : I j = some (ad, τ)) (h : WP E σ I H) (h1 : va_P E.1 vcl (wsOf YB (eB2 E ad (aT E)) (likeR (sB2 τ (tb σ)))) H1) (hk : ∀ q : Nat, q < H.size → ¬ Ax YB (eB2 E ad (aT E)) H.size q → H1[q]? = H[q]?) : WP E σ (upI I j (ad, tb σ)) H1 := by
  have off : ∀ n a, ¬ (1 ≤ n ∧ n ≤ 18) → ¬ (50 + 20 * j ≤ n ∧ n < 68 + 20 * j) → adx E I n = some a → H1[a]? = H[a]? := fun n a hn hn2 ha => hk a (h.lt ha) (notAx hA h _ (xiB hj hI).1 ha (fun i hi e => by
    have : i < 36 := hi
    split at e <;> omega))
  refine ⟨wsP.mpr fun i hi => ?_, ?_, fun k ad' τ' hk2 hI' => ?_⟩
  · have hi' : i < 29 := hi
    by_cases hc : 1 ≤ i ∧ i ≤ 18
    · have h9 := wsP.mp (wsB2 h1) (i - 1) (show i - 1 < 18 by omega)
      rw [cellT (show i - 1 < 18 by omega), show i - 1 + 1 = i by omega, ← cellYO (show i < 28 by omega)] at h9
      have e : (eT E (aT E)).2.2 (i - 1) = E.2.2 i := by show E.2.2 (i - 1 + 1) = _; rw [show i - 1 + 1 = i by omega]
      rw [e] at h9
      exact h9
    · exact (wsP.mp h.1 i hi).kept (off i _ hc (by omega) (adx_lo hi'))
  · rw [imcell_up hI]
    exact h.2.1.kept (off 40 _ (by omega) (by omega) rfl)
  · by_cases hkj : k = j
    · subst hkj
      rw [upI_eq] at hI'
      cases hI'
      exact wsB1 h1
    · rw [upI_ne hkj] at hI'
      exact wsP.mpr fun i hi => (wsP.mp (h.2.2 k ad' τ' hk2 hI') i hi).kept (off _ _ (by omega) (by have : i < 18 := hi; omega) (adx_im hk2 hi hI'))
theorem tb_ub {σ τ : St} {i : Nat} (h : i < 18) : (tb (ub σ τ)).1 i = τ.1 i ∧ (tb (ub σ τ)).2 i = τ.2 i := by
  constructor
  · show (if 1 ≤ i + 1 ∧ i + 1 ≤ 18 then τ.1 (i + 1 - 1) else σ.1 (i + 1)) = τ.1 i
    rw [if_pos (by omega), Nat.add_sub_cancel]
  · show (if 1 ≤ i + 1 ∧ i + 1 ≤ 18 then τ.2 (i + 1 - 1) else σ.2 (i + 1)) = τ.2 i
    rw [if_pos (by omega), Nat.add_sub_cancel]
theorem ub_out {σ τ : St} {i : Nat} (h : ¬ (1 ≤ i ∧ i ≤ 18)) : (ub σ τ).1 i = σ.1 i ∧ (ub σ τ).2 i = σ.2 i := ⟨if_neg h, if_neg h⟩
theorem WP.B {E : Ev} {I : Im} {base j : Nat} {ad : Nat → Nat} {σ τ : St} {H H1 : Heap} (hA : AS E I base) (hj : j < 2) (hI : I j = some (ad, τ)) (h : WP E σ I H) (h1 : va_P E.1 vcl (wsOf YB (eB2 E (aT E) ad) (likeR (sB2 (tb σ) τ))) H1) (hk : ∀ q : Nat, q < H.size → ¬ Ax YB (eB2 E (aT E) ad) H.size q → H1[q]? = H[q]?) : WP E (ub σ τ) I H1 := by
  have off : ∀ n a, ¬ (1 ≤ n ∧ n ≤ 18) → ¬ (50 + 20 * j ≤ n ∧ n < 68 + 20 * j) → adx E I n = some a → H1[a]? = H[a]? := fun n a hn hn2 ha => hk a (h.lt ha) (notAx hA h _ (xiB hj hI).2 ha (fun i hi e => by
    have : i < 36 := hi
    split at e <;> omega))
  refine ⟨wsP.mpr fun i hi => ?_, ?_, fun k ad' τ' hk2 hI' => ?_⟩
  · have hi' : i < 29 := hi
    by_cases hc : 1 ≤ i ∧ i ≤ 18
    · have h9 := wsP.mp (wsB1 h1) (i - 1) (show i - 1 < 18 by omega)
      have e2 : cellOf YT (eT E (aT E)) τ (i - 1) = cellOf YT (eT E (aT E)) (tb (ub σ τ)) (i - 1) := (cell_ne (tb_ub (by omega)).1 (tb_ub (by omega)).2).symm
      rw [e2, cellT (show i - 1 < 18 by omega), show i - 1 + 1 = i by omega, ← cellYO (show i < 28 by omega)] at h9
      have e : (eT E (aT E)).2.2 (i - 1) = E.2.2 i := by show E.2.2 (i - 1 + 1) = _; rw [show i - 1 + 1 = i by omega]
      rw [e] at h9
      exact h9
    · rw [cell_ne (ub_out hc).1 (ub_out hc).2]
      exact (wsP.mp h.1 i hi).kept (off i _ hc (by omega) (adx_lo hi'))
  · exact h.2.1.kept (off 40 _ (by omega) (by omega) rfl)
  · by_cases hkj : k = j
    · subst hkj
      cases hI.symm.trans hI'
      exact wsB2 h1
    · exact wsP.mpr fun i hi => (wsP.mp (h.2.2 k ad' τ' hk2 hI') i hi).kept (off _ _ (by omega) (by have : i < 18 := hi; omega) (adx_im hk2 hi hI'))
/-- a new table -/
def zSt : St := (fun _ _ => 0, fun _ _ => 0)
theorem newT {E : Ev} {q : Nat} {w : va_W} (hp : post_X1 E q w) : ∃ ad : Nat → Nat, ad 0 = q ∧ (∀ i, i < 18 → ∃ e, w[i]? = some (ad i, e)) ∧ ∀ H, va_P E.1 vcl w H → va_P E.1 vcl (wsOf YT (eT E ad) zSt) H := by
  obtain ⟨q1, q2, r2, q3, r3, rfl⟩ := hp
  refine ⟨fun i => match i with | 0 => q | 1 => q1 | 2 => q2 | 3 => r2 0 | 4 => r2 1 | 5 => r2 2 | 6 => r2 3 | 7 => r2 4 | 8 => r2 5 | 9 => q3 | 10 => r3 0 | 11 => r3 1 | 12 => r3 2 | 13 => r3 3 | 14 => r3 4 | 15 => r3 5 | 16 => r3 6 | _ => r3 7, rfl, fun i hi => ?_, fun H hP => wsP.mpr fun i hi => ?_⟩
  · match i, hi with
    | 0, _ => exact ⟨_, rfl⟩
    | 1, _ => exact ⟨_, rfl⟩
    | 2, _ => exact ⟨_, rfl⟩
    | 3, _ => exact ⟨_, rfl⟩
    | 4, _ => exact ⟨_, rfl⟩
    | 5, _ => exact ⟨_, rfl⟩
    | 6, _ => exact ⟨_, rfl⟩
    | 7, _ => exact ⟨_, rfl⟩
    | 8, _ => exact ⟨_, rfl⟩
    | 9, _ => exact ⟨_, rfl⟩
    | 10, _ => exact ⟨_, rfl⟩
    | 11, _ => exact ⟨_, rfl⟩
    | 12, _ => exact ⟨_, rfl⟩
    | 13, _ => exact ⟨_, rfl⟩
    | 14, _ => exact ⟨_, rfl⟩
    | 15, _ => exact ⟨_, rfl⟩
    | 16, _ => exact ⟨_, rfl⟩
    | 17, _ => exact ⟨_, rfl⟩
    | n + 18, h => exact absurd h (by omega)
  · have hi' : i < 18 := hi
    match i, hi' with
    | 0, _ => exact hP 0 _ rfl
    | 1, _ => exact hP 1 _ rfl
    | 2, _ =>
      have h9 : H[q2]? = some (vp_cell (E.2.1 3) (6, .inr (.inr (.inr (.inr (fun k => some (r2 k))))))) := hP 2 _ rfl
      show H[q2]? = some (vp_cell (E.2.1 3) (6, .inr (.inr (.inr (.inr (fun k => some _))))))
      rw [h9, vp_cell_q, vp_cell_q]
      refine congrArg some (arrV_cg (fun k hk => ?_))
      match k, hk with
      | 0, _ => rfl
      | 1, _ => rfl
      | 2, _ => rfl
      | 3, _ => rfl
      | 4, _ => rfl
      | 5, _ => rfl
    | 3, _ => exact hP 3 _ rfl
    | 4, _ => exact hP 4 _ rfl
    | 5, _ => exact hP 5 _ rfl
    | 6, _ => exact hP 6 _ rfl
    | 7, _ => exact hP 7 _ rfl
    | 8, _ => exact hP 8 _ rfl
    | 9, _ =>
      have h9 : H[q3]? = some (vp_cell (E.2.1 3) (8, .inr (.inr (.inr (.inr (fun k => some (r3 k))))))) := hP 9 _ rfl
      show H[q3]? = some (vp_cell (E.2.1 3) (8, .inr (.inr (.inr (.inr (fun k => some _))))))
      rw [h9, vp_cell_q, vp_cell_q]
      refine congrArg some (arrV_cg (fun k hk => ?_))
      match k, hk with
      | 0, _ => rfl
      | 1, _ => rfl
      | 2, _ => rfl
      | 3, _ => rfl
      | 4, _ => rfl
      | 5, _ => rfl
      | 6, _ => rfl
      | 7, _ => rfl
    | 10, _ => exact hP 10 _ rfl
    | 11, _ => exact hP 11 _ rfl
    | 12, _ => exact hP 12 _ rfl
    | 13, _ => exact hP 13 _ rfl
    | 14, _ => exact hP 14 _ rfl
    | 15, _ => exact hP 15 _ rfl
    | 16, _ => exact hP 16 _ rfl
    | 17, _ => exact hP 17 _ rfl
    | n + 18, h => exact absurd h (by omega)
theorem adx_new {E : Ev} {I : Im} {j n a : Nat} {ad : Nat → Nat} {τ : St} (hj : j < 2) (h : adx E (upI I j (ad, τ)) n = some a) : (¬ (50 + 20 * j ≤ n ∧ n < 68 + 20 * j) ∧ adx E I n = some a) ∨ ∃ i, i < 18 ∧ n = 50 + 20 * j + i ∧ a = ad i := by
  rcases adx_inv h with ⟨h1, rfl⟩ | ⟨h1, rfl⟩ | ⟨k, i, ad', τ', hk, hi, hn, hI, rfl⟩
  · exact Or.inl ⟨by omega, adx_lo h1⟩
  · subst h1
    exact Or.inl ⟨by omega, rfl⟩
  · by_cases hkj : k = j
    · subst hkj
      rw [upI_eq] at hI
      cases hI
      exact Or.inr ⟨i, hi, hn, rfl⟩
    · rw [upI_ne hkj] at hI
      refine Or.inl ⟨by omega, ?_⟩
      rw [hn]
      exact adx_im hk hi hI
/-- a new table among the images -/
theorem AS.new {E : Ev} {I : Im} {base j q : Nat} {ad : Nat → Nat} {τ : St} (hA : AS E I base) (hj : j < 2) (hb : base ≤ q) (hlt : ∀ n a, adx E I n = some a → a < q) (h1 : ∀ i, i < 18 → q ≤ ad i) (h2 : ∀ i k, i < 18 → k < 18 → ad i = ad k → i = k) : AS E (upI I j (ad, τ)) base := by
  refine ⟨fun m n a hm hn => ?_, fun n a hn => ?_⟩
  · rcases adx_new hj hm with ⟨m1, m2⟩ | ⟨i, m1, m2, m3⟩
    · rcases adx_new hj hn with ⟨n1, n2⟩ | ⟨k, n1, n2, n3⟩
      · exact hA.1 m n a m2 n2
      · have := hlt m a m2
        have := h1 k n1
        omega
    · rcases adx_new hj hn with ⟨n1, n2⟩ | ⟨k, n1, n2, n3⟩
      · have := hlt n a n2
        have := h1 i m1
        omega
      · have := h2 i k m1 n1 (m3.symm.trans n3)
        omega
  · rcases adx_new hj hn with ⟨n1, n2⟩ | ⟨k, n1, n2, n3⟩
    · exact hA.2 n a n2
    · have := h1 k n1
      omega
