/-! ===== two rows merged ===== -/
def ahd (f : Bool) (x y : Int64) : Bool := if f = true then !decide (x ≤ y) else !decide (y ≤ x)
def leP (f : Bool) (x y : Nat × Int64) : Bool := !ahd f y.2 x.2
def leR (f : Bool) (x y : Nat × Int64) : Prop := leP f x y = true
def stR (f : Bool) (x y : Nat × Int64) : Prop := leP f x y = true ∧ (leP f y x = true → x.1 < y.1)
theorem leP_iff (f : Bool) (x y : Nat × Int64) : leP f x y = true ↔ if f = true then y.2.toInt ≤ x.2.toInt else x.2.toInt ≤ y.2.toInt := by
  unfold leP ahd
  cases f
  · rw [if_neg (by decide), if_neg (by decide), Bool.not_not, decide_eq_true_eq, fa_le64]
  · rw [if_pos rfl, if_pos rfl, Bool.not_not, decide_eq_true_eq, fa_le64]
theorem leP_tr (f : Bool) (x y z : Nat × Int64) (h1 : leP f x y = true) (h2 : leP f y z = true) : leP f x z = true := by
  rw [leP_iff] at h1 h2 ⊢
  cases f
  · rw [if_neg (by decide)] at h1 h2 ⊢; omega
  · rw [if_pos rfl] at h1 h2 ⊢; omega
theorem leP_to {f : Bool} {x y : Nat × Int64} (h1 : ¬ leP f x y = true) : leP f y x = true := by
  rw [leP_iff] at h1 ⊢
  cases f
  · rw [if_neg (by decide)] at h1 ⊢; omega
  · rw [if_pos rfl] at h1 ⊢; omega
theorem stR_le {f : Bool} {l : List (Nat × Int64)} (h : l.Pairwise (stR f)) : l.Pairwise (leR f) := h.imp fun h => h.1
theorem isAhead_eq {σ : St} {i j : Nat} (hi : i < 192) (hj : j < 192) (f : Bool) : c_X0_isAhead σ (nI i) (nI j) (bI f) = some (bI (ahd f (σ.2 21 i) (σ.2 21 j))) := by
  unfold c_X0_isAhead
  cases f
  · rw [if_pos (show bI false = 0 from rfl), ix192 hi, Option.bind_some, ix192 hj, Option.bind_some, s01, Option.bind_some, nz_bI]; rfl
  · rw [if_neg (show ¬ bI true = 0 by decide), ix192 hi, Option.bind_some, ix192 hj, Option.bind_some, s01, Option.bind_some, nz_bI]; rfl
/-- merging keeps like ones as they stood -/
theorem merge_st (f : Bool) (l1 l2 : List (Nat × Int64)) (h1 : l1.Pairwise (stR f)) (h2 : l2.Pairwise (stR f)) (hr : ∀ x y, x ∈ l1 → y ∈ l2 → x.1 < y.1) : (List.merge l1 l2 (leP f)).Pairwise (stR f) := by
  induction l1 generalizing l2 with
  | nil => rw [List.nil_merge]; exact h2
  | cons x l1 ih1 =>
    induction l2 with
    | nil => rw [List.merge_right]; exact h1
    | cons y l2 ih2 =>
      have hxy : x.1 < y.1 := hr x y List.mem_cons_self List.mem_cons_self
      by_cases h : leP f x y = true
      · rw [List.cons_merge_cons_pos _ _ _ h]
        refine List.Pairwise.cons (fun z hz => ?_) (ih1 _ h1.tail h2 (fun a b ha hb => hr a b (List.mem_cons_of_mem _ ha) hb))
        rcases List.mem_merge.mp hz with hz | hz
        · exact List.rel_of_pairwise_cons h1 hz
        · rcases List.mem_cons.mp hz with rfl | hz
          · exact ⟨h, fun _ => hxy⟩
          · exact ⟨leP_tr f x y z h (List.rel_of_pairwise_cons h2 hz).1, fun _ => hr x z List.mem_cons_self (List.mem_cons_of_mem _ hz)⟩
      · rw [List.cons_merge_cons_neg _ _ _ h]
        refine List.Pairwise.cons (fun z hz => ?_) (ih2 h2.tail (fun a b ha hb => hr a b ha (List.mem_cons_of_mem _ hb)))
        rcases List.mem_merge.mp hz with hz | hz
        · rcases List.mem_cons.mp hz with rfl | hz
          · exact ⟨leP_to h, fun g => absurd g h⟩
          · have g := (List.rel_of_pairwise_cons h1 hz).1
            exact ⟨leP_tr f y x z (leP_to h) g, fun g2 => absurd (leP_tr f x z y g g2) h⟩
        · exact List.rel_of_pairwise_cons h2 hz
/-- couples that stand the other way round: across two rows, within one -/
def cr (le : Nat × Int64 → Nat × Int64 → Bool) : List (Nat × Int64) → List (Nat × Int64) → Nat
  | [], _ => 0
  | x :: xs, ys => ys.countP (fun y => !le x y) + cr le xs ys
def iv (le : Nat × Int64 → Nat × Int64 → Bool) : List (Nat × Int64) → Nat
  | [] => 0
  | x :: xs => xs.countP (fun y => !le x y) + iv le xs
section CR
variable {le : Nat × Int64 → Nat × Int64 → Bool}
theorem cr_nil (xs : List (Nat × Int64)) : cr le xs [] = 0 := by
  induction xs with
  | nil => rfl
  | cons x xs ih => rw [cr, ih]; rfl
theorem cr_left {x : Nat × Int64} {xs ys : List (Nat × Int64)} (h : ∀ y, y ∈ ys → le x y = true) : cr le (x :: xs) ys = cr le xs ys := by
  rw [cr, List.countP_eq_zero.mpr (fun y hy => by rw [h y hy]; decide), Nat.zero_add]
theorem cr_cons (y : Nat × Int64) (xs ys : List (Nat × Int64)) : cr le xs (y :: ys) = xs.countP (fun x => !le x y) + cr le xs ys := by
  induction xs with
  | nil => rfl
  | cons x xs ih =>
    rw [cr, cr, ih, List.countP_cons, List.countP_cons]
    omega
theorem cr_right {y : Nat × Int64} {xs ys : List (Nat × Int64)} (h : ∀ x, x ∈ xs → ¬ le x y = true) : cr le xs (y :: ys) = xs.length + cr le xs ys := by
  rw [cr_cons, List.countP_eq_length.mpr (fun x hx => by rw [Bool.not_eq_true _ |>.mp (h x hx)]; rfl)]
theorem cr_permL {a b ys : List (Nat × Int64)} (h : a.Perm b) : cr le a ys = cr le b ys := by
  induction h with
  | nil => rfl
  | cons x _ ih => rw [cr, cr, ih]
  | swap x y l => rw [cr, cr, cr, cr]; omega
  | trans _ _ ih1 ih2 => rw [ih1, ih2]
theorem cr_permR {xs a b : List (Nat × Int64)} (h : a.Perm b) : cr le xs a = cr le xs b := by
  induction xs with
  | nil => rfl
  | cons x xs ih => rw [cr, cr, ih, h.countP_eq]
theorem iv_app (xs ys : List (Nat × Int64)) : iv le (xs ++ ys) = iv le xs + iv le ys + cr le xs ys := by
  induction xs with
  | nil => rw [List.nil_append, iv, cr]; omega
  | cons x xs ih =>
    rw [List.cons_append, iv, iv, cr, ih, List.countP_append]
    omega
end CR
theorem iv_sorted {f : Bool} {xs : List (Nat × Int64)} (h : xs.Pairwise (leR f)) : iv (leP f) xs = 0 := by
  induction xs with
  | nil => rfl
  | cons x xs ih =>
    have h2 := List.pairwise_cons.mp h
    rw [iv, ih h2.2, List.countP_eq_zero.mpr (fun y hy => by rw [show leP f x y = true from h2.1 y hy]; decide)]
/-- the class's spare rows -/
def Sp (σ : St) (A : List (Nat × Int64)) : Prop := ∀ i x, A[i]? = some x → σ.1 22 i = nI x.1 ∧ σ.2 23 i = x.2
def Fr (σ τ : St) : Prop := ∀ j, j ≠ 22 → j ≠ 23 → τ.1 j = σ.1 j ∧ τ.2 j = σ.2 j
section MRG
variable {σ τ : St} {L A O xs ys : List (Nat × Int64)}
theorem Fr.rf : Fr σ σ := fun _ _ _ => ⟨rfl, rfl⟩
theorem Pk.fr (h : Pk σ L) (hf : Fr σ τ) : Pk τ L := by
  refine ⟨by rw [(hf 19 (by decide) (by decide)).1]; exact h.1, h.2.1, fun i x hx => ?_⟩
  rw [(hf 20 (by decide) (by decide)).1, (hf 21 (by decide) (by decide)).2]
  exact h.2.2 i x hx
theorem Sp.put (h : Sp σ A) (r : Int32) (v : Int64) (x : Nat × Int64) (hr : r = nI x.1) (hv : v = x.2) : Sp (sL (sI σ 22 A.length r) 23 A.length v) (A ++ [x]) := fun i y hy => by
  rw [sL1, sI1, sL2, sI2]
  by_cases e : i = A.length
  · subst e
    rw [List.getElem?_append_right (Nat.le_refl _), Nat.sub_self] at hy
    have : x = y := by simpa using hy
    subst this
    rw [if_pos ⟨rfl, rfl⟩, if_pos ⟨rfl, rfl⟩]
    exact ⟨hr, hv⟩
  · have hlt : i < A.length := by
      have := (List.getElem?_eq_some_iff.mp hy).1
      rw [List.length_append] at this
      have h4 : [x].length = 1 := rfl
      omega
    rw [List.getElem?_append_left hlt] at hy
    rw [if_neg (fun q => e q.2), if_neg (fun q => e q.2)]
    exact h i y hy
theorem Fr.put (h : Fr σ τ) {i : Nat} {r : Int32} {v : Int64} : Fr σ (sL (sI τ 22 i r) 23 i v) := fun j h1 h2 => by
  rw [sL1, sI_ne h1, sL_ne h2, sI2]
  exact h j h1 h2
theorem drop_g {l : List (Nat × Int64)} {a : Nat} {x : Nat × Int64} (h : l[a]? = some x) : l.drop a = x :: l.drop (a + 1) := by
  have h1 := List.getElem?_eq_some_iff.mp h
  rw [← h1.2]
  exact List.drop_eq_getElem_cons h1.1
theorem get_lt {l : List (Nat × Int64)} {a : Nat} (h : a < l.length) : ∃ x, l[a]? = some x := ⟨_, List.getElem?_eq_getElem h⟩
theorem drop_pw {R : Nat × Int64 → Nat × Int64 → Prop} {l : List (Nat × Int64)} (h : l.Pairwise R) (a : Nat) : (l.drop a).Pairwise R := h.sublist (List.drop_sublist a l)
def mgI (f : Bool) (σ : St) (A xs ys : List (Nat × Int64)) (j : Nat) (z : Int32 × Int32 × Int32 × Int32 × St) : Prop := ∃ a b c O τ, z = (nI c, nI (A.length + a), nI (A.length + xs.length + b), nI (A.length + j), τ) ∧ a ≤ xs.length ∧ b ≤ ys.length ∧ a + b = j ∧ Sp τ (A ++ O) ∧ O.length = j ∧ O ++ List.merge (xs.drop a) (ys.drop b) (leP f) = List.merge xs ys (leP f) ∧ c + cr (leP f) (xs.drop a) (ys.drop b) = cr (leP f) xs ys ∧ Fr σ τ
def mgQ (f : Bool) (σ : St) (A xs ys : List (Nat × Int64)) (p : Int32 × St) : Prop := p.1 = nI (cr (leP f) xs ys) ∧ Sp p.2 (A ++ List.merge xs ys (leP f)) ∧ Fr σ p.2
def mgK (c m l r i : Int32) (τ : St) (t9 : Int32) : Option ((Int32 × Int32 × Int32 × Int32 × St) ⊕ (Int32 × St)) := ((if t9 = 0 then some c else some (c + (m - l))).bind fun (t17 : Int32) => ((if t9 = 0 then some ((l + 1), r, l) else some (l, (r + 1), r)).bind fun (t21 : Int32 × Int32 × Int32) => ((ix t21.2.2 192).bind fun j25 => ((ix i 192).bind fun j27 => ((ix t21.2.2 192).bind fun j29 => ((ix i 192).bind fun j31 => some (.inl (t17, t21.1, t21.2.1, (i + 1), (sL (sI τ 22 j27 (τ.1 20 j25)) 23 j31 ((sI τ 22 j27 (τ.1 20 j25)).2 21 j29))))))))))
theorem merge_wp (f : Bool) (hP : Pk σ L) (hS : Sp σ A) (hx : ∀ i x, xs[i]? = some x → L[A.length + i]? = some x) (hy : ∀ i y, ys[i]? = some y → L[A.length + xs.length + i]? = some y) (he : A.length + xs.length + ys.length ≤ L.length) (sx : xs.Pairwise (leR f)) (sy : ys.Pairwise (leR f)) : wp (c_X0_merge σ (nI A.length) (nI (A.length + xs.length)) (nI (A.length + xs.length + ys.length)) (bI f)) (fun p => p.1 = nI (cr (leP f) xs ys) ∧ Sp p.2 (A ++ List.merge xs ys (leP f)) ∧ Fr σ p.2) := by
  unfold c_X0_merge
  have h192 := hP.2.1
  refine wp_bm (Q := mgQ f σ A xs ys) (wp_lp (xs.length + ys.length) (mgI f σ A xs ys) (by omega) ⟨0, 0, 0, [], σ, rfl, by omega, by omega, rfl, by rw [List.append_nil]; exact hS, rfl, rfl, by rw [List.drop_zero, List.drop_zero, Nat.zero_add], Fr.rf⟩ (fun j z hj hJ => ?_) (fun z hJ => ?_)) (fun p hp => wp_some hp)
  · obtain ⟨a, b, c, O, τ, rfl, ha, hb, hab, h1, hO, h2, h3, h4⟩ := hJ
    have hPt := hP.fr h4
    have hlen : (A ++ O).length = A.length + j := by rw [List.length_append, hO]
    show wp (if nI (A.length + xs.length + ys.length) ≤ nI (A.length + j) then _ else _) _
    rw [if_neg (ltL _ (by omega) (show A.length + j < A.length + xs.length + ys.length by omega))]
    show wp ((if nI (A.length + xs.length) ≤ nI (A.length + a) then some (1 : Int32) else (if nI (A.length + xs.length + ys.length) ≤ nI (A.length + xs.length + b) then some (0 : Int32) else (c_X0_isAhead τ (nI (A.length + xs.length + b)) (nI (A.length + a)) (bI f)).bind fun v14 => (if v14 = 0 then some (0 : Int32) else some (1 : Int32)))).bind (mgK (nI c) (nI (A.length + xs.length)) (nI (A.length + a)) (nI (A.length + xs.length + b)) (nI (A.length + j)) τ)) (lpP (mgI f σ A xs ys (j + 1)) (mgQ f σ A xs ys))
    -- the left one is taken
    have goL : a < xs.length → (∀ x, xs[a]? = some x → (b < ys.length → ∀ y, ys[b]? = some y → leP f x y = true)) → wp ((some (0 : Int32)).bind (mgK (nI c) (nI (A.length + xs.length)) (nI (A.length + a)) (nI (A.length + xs.length + b)) (nI (A.length + j)) τ)) (lpP (mgI f σ A xs ys (j + 1)) (mgQ f σ A xs ys)) := fun hal hle => by
      obtain ⟨x, ex⟩ := get_lt hal
      have eL := hPt.2.2 _ x (hx a x ex)
      have hp : A.length + a < 192 := by omega
      have hq : A.length + j < 192 := by omega
      rw [Option.bind_some]
      unfold mgK
      rw [if_pos rfl, Option.bind_some, if_pos rfl, Option.bind_some]
      show wp ((ix (nI (A.length + a)) 192).bind _) _
      rw [ix192 hp, Option.bind_some, ix192 hq, Option.bind_some, Option.bind_some, Option.bind_some, nI_s, nI_s]
      have e1 := drop_g ex
      refine wp_some ⟨a + 1, b, c, O ++ [x], _, rfl, hal, hb, by omega, ?_, by rw [List.length_append, hO]; rfl, ?_, ?_, h4.put⟩
      · rw [← List.append_assoc]
        have := h1.put (τ.1 20 (A.length + a)) (τ.2 21 (A.length + a)) x eL.1 eL.2
        rw [hlen] at this
        exact this
      · rw [List.append_assoc, ← h2, e1]
        congr 1
        by_cases hbl : b < ys.length
        · obtain ⟨y, ey⟩ := get_lt hbl
          rw [drop_g ey, List.cons_merge_cons_pos _ _ _ (hle x ex hbl y ey)]; rfl
        · rw [List.drop_eq_nil_of_le (show ys.length ≤ b by omega), List.merge_right, List.merge_right]; rfl
      · rw [← h3, e1, cr_left]
        intro y hyy
        by_cases hbl : b < ys.length
        · obtain ⟨y0, ey⟩ := get_lt hbl
          rw [drop_g ey] at hyy
          have h5 := hle x ex hbl y0 ey
          rcases List.mem_cons.mp hyy with rfl | hyy
          · exact h5
          · have h6 := drop_pw sy b
            rw [drop_g ey] at h6
            exact leP_tr f x y0 y h5 (List.rel_of_pairwise_cons h6 hyy)
        · rw [List.drop_eq_nil_of_le (show ys.length ≤ b by omega)] at hyy
          cases hyy
    have goR : b < ys.length → (∀ y, ys[b]? = some y → (a < xs.length → ∀ x, xs[a]? = some x → ¬ leP f x y = true)) → wp ((some (1 : Int32)).bind (mgK (nI c) (nI (A.length + xs.length)) (nI (A.length + a)) (nI (A.length + xs.length + b)) (nI (A.length + j)) τ)) (lpP (mgI f σ A xs ys (j + 1)) (mgQ f σ A xs ys)) := fun hbl hle => by
      obtain ⟨y, ey⟩ := get_lt hbl
      have eL := hPt.2.2 _ y (hy b y ey)
      have hp : A.length + xs.length + b < 192 := by omega
      have hq : A.length + j < 192 := by omega
      rw [Option.bind_some]
      unfold mgK
      rw [if_neg (by decide), Option.bind_some, if_neg (by decide), Option.bind_some]
      show wp ((ix (nI (A.length + xs.length + b)) 192).bind _) _
      rw [ix192 hp, Option.bind_some, ix192 hq, Option.bind_some, Option.bind_some, Option.bind_some, nI_s, nI_s, pk_sub (show A.length + a ≤ A.length + xs.length by omega), nI_add]
      have e1 := drop_g ey
      refine wp_some ⟨a, b + 1, c + (A.length + xs.length - (A.length + a)), O ++ [y], _, rfl, ha, hbl, by omega, ?_, by rw [List.length_append, hO]; rfl, ?_, ?_, h4.put⟩
      · rw [← List.append_assoc]
        have := h1.put (τ.1 20 (A.length + xs.length + b)) (τ.2 21 (A.length + xs.length + b)) y eL.1 eL.2
        rw [hlen] at this
        exact this
      · rw [List.append_assoc, ← h2, e1]
        congr 1
        by_cases hal : a < xs.length
        · obtain ⟨x, ex⟩ := get_lt hal
          rw [drop_g ex, List.cons_merge_cons_neg _ _ _ (hle y ey hal x ex)]; rfl
        · rw [List.drop_eq_nil_of_le (show xs.length ≤ a by omega), List.nil_merge, List.nil_merge]; rfl
      · rw [← h3, e1, cr_right]
        · rw [List.length_drop]; omega
        · intro x hxx
          by_cases hal : a < xs.length
          · obtain ⟨x0, ex⟩ := get_lt hal
            rw [drop_g ex] at hxx
            have h5 := hle y ey hal x0 ex
            rcases List.mem_cons.mp hxx with rfl | hxx
            · exact h5
            · have h6 := drop_pw sx a
              rw [drop_g ex] at h6
              exact fun h7 => h5 (leP_tr f x0 x y (List.rel_of_pairwise_cons h6 hxx) h7)
          · rw [List.drop_eq_nil_of_le (show xs.length ≤ a by omega)] at hxx
            cases hxx
    by_cases c1 : a < xs.length
    · rw [if_neg (ltL _ (by omega) (show A.length + a < A.length + xs.length by omega))]
      by_cases c2 : b < ys.length
      · rw [if_neg (ltL _ (by omega) (show A.length + xs.length + b < A.length + xs.length + ys.length by omega)), isAhead_eq (by omega) (by omega) f, Option.bind_some, if_bI]
        obtain ⟨x, ex⟩ := get_lt c1
        obtain ⟨y, ey⟩ := get_lt c2
        have eX := (hPt.2.2 _ x (hx a x ex)).2
        have eY := (hPt.2.2 _ y (hy b y ey)).2
        rw [eX, eY]
        by_cases c3 : ahd f y.2 x.2 = true
        · rw [if_pos c3]
          refine goR c2 (fun y' ey' _ x' ex' => ?_)
          rw [ex] at ex'; rw [ey] at ey'
          cases ex'; cases ey'
          unfold leP
          rw [c3]; decide
        · rw [if_neg c3]
          refine goL c1 (fun x' ex' _ y' ey' => ?_)
          rw [ex] at ex'; rw [ey] at ey'
          cases ex'; cases ey'
          unfold leP
          rw [Bool.not_eq_true _ |>.mp c3]; rfl
      · rw [if_pos (nI_le (show A.length + xs.length + ys.length ≤ A.length + xs.length + b by omega) (by omega))]
        exact goL c1 (fun _ _ g => absurd g c2)
    · rw [if_pos (nI_le (show A.length + xs.length ≤ A.length + a by omega) (by omega))]
      exact goR (by omega) (fun _ _ g => absurd g c1)
  · obtain ⟨a, b, c, O, τ, rfl, ha, hb, hab, h1, hO, h2, h3, h4⟩ := hJ
    have ea : a = xs.length := by omega
    have eb : b = ys.length := by omega
    subst ea eb
    rw [List.drop_length, List.drop_length, List.nil_merge, List.append_nil] at h2
    rw [List.drop_length, cr, Nat.add_zero] at h3
    show wp (if nI (A.length + xs.length + ys.length) ≤ nI (A.length + (xs.length + ys.length)) then _ else _) _
    rw [if_pos (nI_le (by omega) (by omega))]
    refine wp_some ⟨?_, ?_, h4⟩
    · show nI c = _
      rw [h3]
    · rw [← h2]; exact h1
end MRG
