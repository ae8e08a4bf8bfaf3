/-! ===== rows put in order ===== -/
theorem min_eq (σ : St) {a b : Nat} (ha : a < 2 ^ 31) (hb : b < 2 ^ 31) : c_J9_min_7cf53 σ (nI a) (nI b) = some (nI (min a b)) := by
  unfold c_J9_min_7cf53
  by_cases h : b < a
  · rw [if_pos (nI_lt h ha), Option.bind_some, show min a b = b by omega]
  · rw [if_neg (nI_nlt (by omega) hb), Option.bind_some, show min a b = a by omega]
theorem dv_lt {d x f : Nat} (hx : d ∣ x) (hf : d ∣ f) (h : x < f) : x + d ≤ f := by
  obtain ⟨i, rfl⟩ := hx
  obtain ⟨j, rfl⟩ := hf
  have hij : i < j := Nat.lt_of_mul_lt_mul_left h
  rw [← Nat.mul_succ]
  exact Nat.mul_le_mul_left d hij
section PIO
variable {σ τ : St} {L A L0 : List (Nat × Int64)} {f : Bool} {ln T : Nat}
def rAsc (l : List (Nat × Int64)) : Prop := l.Pairwise fun x y => x.1 < y.1
/-- what holds of a row whose stretches of ln are in order -/
def pI (f : Bool) (L0 : List (Nat × Int64)) (ln : Nat) (L : List (Nat × Int64)) : Prop :=
  (∀ x, ln ∣ x → (L.take x).Perm (L0.take x)) ∧ (∀ x, ln ∣ x → ((L.drop x).take ln).Pairwise (stR f)) ∧ L.length = L0.length
theorem perm_drop (h : L.Perm L0) {x : Nat} (hx : (L.take x).Perm (L0.take x)) : (L.drop x).Perm (L0.drop x) := by
  have h1 : (L.take x ++ L.drop x).Perm (L0.take x ++ L0.drop x) := by rw [List.take_append_drop, List.take_append_drop]; exact h
  exact (List.perm_append_left_iff (L0.take x)).mp ((hx.symm.append_right _).trans h1)
theorem pI.perm (h : pI f L0 ln L) (h0 : 0 < ln) : L.Perm L0 := by
  have h1 := h.1 (ln * L0.length) ⟨_, rfl⟩
  have h2 : L0.length ≤ ln * L0.length := Nat.le_mul_of_pos_left _ h0
  rw [List.take_of_length_le (by rw [h.2.2]; exact h2), List.take_of_length_le h2] at h1
  exact h1
theorem pI.rows (h : pI f L0 ln L) (h0 : 0 < ln) (hA : rAsc L0) {x : Nat} (hx : ln ∣ x) : ∀ a b, a ∈ L.take x → b ∈ L.drop x → a.1 < b.1 := fun a b ha hb => by
  have h1 := (h.1 x hx).mem_iff.mp ha
  have h2 := (perm_drop (h.perm h0) (h.1 x hx)).mem_iff.mp hb
  have h3 : (L0.take x ++ L0.drop x).Pairwise fun x y => x.1 < y.1 := by rw [List.take_append_drop]; exact hA
  exact (List.pairwise_append.mp h3).2.2 a h1 b h2
/-- a pass, at stretch g -/
def pJ (f : Bool) (L0 L : List (Nat × Int64)) (ln g c : Nat) (A : List (Nat × Int64)) : Prop :=
  A.length = min g L.length ∧ (∀ x, 2 * ln ∣ x → x ≤ g → (A.take x).Perm (L0.take x)) ∧ (∀ x, 2 * ln ∣ x → x + 2 * ln ≤ g → ((A.drop x).take (2 * ln)).Pairwise (stR f)) ∧ c + iv (leP f) (A ++ L.drop g) = iv (leP f) L
theorem dv2 {x : Nat} (h : 2 * ln ∣ x) : ln ∣ x := Nat.dvd_trans ⟨2, by rw [Nat.mul_comm]⟩ h
theorem pJ.step (h : pI f L0 ln L) (h0 : 0 < ln) (hA : rAsc L0) {g c : Nat} (hg : 2 * ln ∣ g) (hgl : g < L.length) (hJ : pJ f L0 L ln g c A) : pJ f L0 L ln (g + 2 * ln) (c + cr (leP f) ((L.drop g).take ln) ((L.drop (g + ln)).take ln)) (A ++ List.merge ((L.drop g).take ln) ((L.drop (g + ln)).take ln) (leP f)) := by
  obtain ⟨j1, j2, j3, j4⟩ := hJ
  have hAl : A.length = g := by omega
  have d1 : ln ∣ g := dv2 hg
  have d2 : ln ∣ g + ln := Nat.dvd_add d1 (Nat.dvd_refl _)
  have d3 : ln ∣ g + 2 * ln := Nat.dvd_add d1 ⟨2, by rw [Nat.mul_comm]⟩
  have hsplit : L.drop g = ((L.drop g).take ln ++ (L.drop (g + ln)).take ln) ++ L.drop (g + 2 * ln) := by
    have e1 : L.drop (g + ln) = (L.drop g).drop ln := by rw [List.drop_drop]
    have e2 : L.drop (g + 2 * ln) = (L.drop (g + ln)).drop ln := by rw [List.drop_drop, show g + ln + ln = g + 2 * ln by omega]
    rw [List.append_assoc, e2, List.take_append_drop, e1, List.take_append_drop]
  have sx := h.2.1 g d1
  have sy := h.2.1 (g + ln) d2
  have hrow : ∀ x y, x ∈ (L.drop g).take ln → y ∈ (L.drop (g + ln)).take ln → x.1 < y.1 := fun x y hx hy => by
    refine h.rows h0 hA d2 x y ?_ (List.mem_of_mem_take hy)
    rw [List.take_add]
    exact List.mem_append_right _ hx
  have hB := merge_st f _ _ sx sy hrow
  have hBp : (List.merge ((L.drop g).take ln) ((L.drop (g + ln)).take ln) (leP f)).Perm ((L.drop g).take ln ++ (L.drop (g + ln)).take ln) := List.merge_perm_append _
  have hBl : (List.merge ((L.drop g).take ln) ((L.drop (g + ln)).take ln) (leP f)).length = min (2 * ln) (L.length - g) := by
    rw [List.length_merge, List.length_take, List.length_take, List.length_drop, List.length_drop]
    omega
  have ivx := iv_sorted (stR_le sx)
  have ivy := iv_sorted (stR_le sy)
  generalize (L.drop g).take ln = xs at *
  generalize (L.drop (g + ln)).take ln = ys at *
  have ivB := iv_sorted (stR_le hB)
  generalize List.merge xs ys (leP f) = B at *
  have hAp : (A ++ B).Perm (L0.take (g + 2 * ln)) := by
    have p1 := j2 g hg (Nat.le_refl _)
    rw [List.take_of_length_le (by omega)] at p1
    have p2 : (A ++ B).Perm (L.take g ++ (xs ++ ys)) := (p1.trans (h.1 g d1).symm).append hBp
    have p3 : L.take (g + 2 * ln) = L.take g ++ (xs ++ ys) := by
      have e1 : (L.take g ++ (xs ++ ys)) ++ L.drop (g + 2 * ln) = L := by rw [List.append_assoc, ← hsplit, List.take_append_drop]
      have e2 : L.take (g + 2 * ln) ++ L.drop (g + 2 * ln) = L := List.take_append_drop _ _
      exact List.append_cancel_right (e2.trans e1.symm)
    rw [← p3] at p2
    exact p2.trans (h.1 _ d3)
  refine ⟨by rw [List.length_append, hBl]; omega, fun x hx hxg => ?_, fun x hx hxg => ?_, ?_⟩
  · by_cases e : x ≤ g
    · rw [List.take_append_of_le_length (by omega)]
      exact j2 x hx e
    · have e2 : x = g + 2 * ln := by
        have := dv_lt hg hx (by omega)
        omega
      subst e2
      rw [List.take_of_length_le (by rw [List.length_append, hBl]; omega)]
      exact hAp
  · by_cases e : x < g
    · have e2 := dv_lt hx hg e
      rw [List.drop_append_of_le_length (by omega), List.take_append_of_le_length (by rw [List.length_drop]; omega)]
      exact j3 x hx e2
    · have e2 : x = g := by omega
      subst e2
      rw [← hAl, List.drop_left, List.take_of_length_le (by rw [hBl]; omega)]
      exact hB
  · rw [hsplit] at j4
    rw [iv_app, iv_app, iv_app, ivx, ivy] at j4
    rw [List.append_assoc, iv_app, iv_app, ivB]
    have c1 : cr (leP f) B (L.drop (g + 2 * ln)) = cr (leP f) (xs ++ ys) (L.drop (g + 2 * ln)) := cr_permL hBp
    have c2 : cr (leP f) A (B ++ L.drop (g + 2 * ln)) = cr (leP f) A (xs ++ ys ++ L.drop (g + 2 * ln)) := cr_permR (hBp.append_right _)
    omega
theorem pJ.done (h : pI f L0 ln L) (h0 : 0 < ln) {g c : Nat} (hg : 2 * ln ∣ g) (hgl : L.length ≤ g) (hJ : pJ f L0 L ln g c A) : pI f L0 (2 * ln) A ∧ c + iv (leP f) A = iv (leP f) L ∧ A.length = L.length := by
  obtain ⟨j1, j2, j3, j4⟩ := hJ
  have hAl : A.length = L.length := by omega
  have hL := h.2.2
  refine ⟨⟨fun x hx => ?_, fun x hx => ?_, by omega⟩, ?_, hAl⟩
  · by_cases e : x ≤ g
    · exact j2 x hx e
    · have := j2 g hg (Nat.le_refl _)
      rw [List.take_of_length_le (by omega), List.take_of_length_le (by omega)] at this
      rw [List.take_of_length_le (by omega), List.take_of_length_le (by omega)]
      exact this
  · by_cases e : x < g
    · exact j3 x hx (dv_lt hx hg e)
    · rw [List.drop_eq_nil_of_le (by omega), List.take_nil]
      exact List.Pairwise.nil
  · rw [List.drop_eq_nil_of_le hgl, List.append_nil] at j4
    exact j4
theorem pass_wp (h : pI f L0 ln L) (h0 : 0 < ln) (hln : ln < L.length) (hA : rAsc L0) (hP : Pk σ L) : wp (lp 5000 (fun (s9 : Int32 × Int32 × St) => (if s9.2.2.1 19 0 ≤ s9.2.1 then some (.inr (s9.1, s9.2.2)) else ((c_J9_min_7cf53 s9.2.2 (s9.2.1 + (nI ln)) (s9.2.2.1 19 0)).bind fun v17 => ((c_J9_min_7cf53 s9.2.2 (v17 + (nI ln)) (s9.2.2.1 19 0)).bind fun v19 => ((c_X0_merge s9.2.2 s9.2.1 v17 v19 (bI f)).bind fun v21 => some (.inl ((s9.1 + v21.1), (s9.2.1 + ((2 : Int32) * (nI ln))), v21.2))))))) (nI T, (0 : Int32), σ)) (fun p => ∃ c A, p.1 = nI (T + c) ∧ Sp p.2 A ∧ pI f L0 (2 * ln) A ∧ c + iv (leP f) A = iv (leP f) L ∧ A.length = L.length ∧ Fr σ p.2) := by
  have h192 := hP.2.1
  refine wp_lp 192 (fun t (z : Int32 × Int32 × St) => ∃ g c A τ, z = (nI (T + c), nI g, τ) ∧ t ≤ g ∧ g < L.length + 2 * ln ∧ 2 * ln ∣ g ∧ Sp τ A ∧ pJ f L0 L ln g c A ∧ Fr σ τ) (by decide) ⟨0, 0, [], σ, rfl, Nat.le_refl _, by omega, Nat.dvd_zero _, (show Sp σ [] from fun i x hx => by cases hx), (show pJ f L0 L ln 0 0 [] from ⟨(Nat.zero_min _).symm, fun x _ hx => by rw [show x = 0 by omega]; exact List.Perm.refl _, fun x _ hx => absurd hx (by omega), by rw [List.drop_zero, List.nil_append, Nat.zero_add]⟩), Fr.rf⟩ (fun t z ht hJ => ?_) (fun z hJ => ?_)
  · obtain ⟨g, c, A, τ, rfl, g1, g2, g3, g4, g5, g6⟩ := hJ
    have hPt := hP.fr g6
    show wp (if τ.1 19 0 ≤ nI g then _ else (c_J9_min_7cf53 τ (nI g + nI ln) (τ.1 19 0)).bind _) _
    rw [hPt.1]
    by_cases e : L.length ≤ g
    · rw [if_pos (nI_le e (by omega))]
      obtain ⟨f1, f2, f3⟩ := pJ.done h h0 g3 e g5
      exact wp_some ⟨c, A, rfl, g4, f1, f2, f3, g6⟩
    · have hAl : A.length = g := by have := g5.1; omega
      have st := pJ.step h h0 hA g3 (by omega) g5
      have d1 : ln ∣ g := dv2 g3
      have sx := stR_le (h.2.1 g d1)
      have sy := stR_le (h.2.1 (g + ln) (Nat.dvd_add d1 (Nat.dvd_refl _)))
      have lx : ((L.drop g).take ln).length = min ln (L.length - g) := by rw [List.length_take, List.length_drop]
      have ly : ((L.drop (g + ln)).take ln).length = min ln (L.length - (g + ln)) := by rw [List.length_take, List.length_drop]
      have em : min (g + ln) L.length = A.length + ((L.drop g).take ln).length := by rw [lx]; omega
      have ee : min (A.length + ((L.drop g).take ln).length + ln) L.length = A.length + ((L.drop g).take ln).length + ((L.drop (g + ln)).take ln).length := by rw [lx, ly]; omega
      have mw := merge_wp (A := A) (xs := (L.drop g).take ln) (ys := (L.drop (g + ln)).take ln) f hPt g4 (fun i x hx => by
          rw [List.getElem?_take] at hx
          split at hx
          · rw [List.getElem?_drop, ← hAl] at hx; exact hx
          · cases hx) (fun i x hx => by
          rw [List.getElem?_take] at hx
          split at hx
          · rw [List.getElem?_drop] at hx
            have : i < L.length - (g + ln) := by
              have := (List.getElem?_eq_some_iff.mp hx).1
              omega
            rw [lx, hAl, show g + min ln (L.length - g) + i = g + ln + i by omega]
            exact hx
          · cases hx) (by rw [lx, ly]; omega) sx sy
      obtain ⟨p, ep, q1, q2, q3⟩ := mw
      rw [if_neg (ltL _ (by omega) (by omega)), nI_add, min_eq τ (by omega) (by omega), Option.bind_some, em]
      show wp ((c_J9_min_7cf53 τ (nI (A.length + ((L.drop g).take ln).length) + nI ln) (nI L.length)).bind _) _
      rw [nI_add, min_eq τ (by rw [lx]; omega) (by omega), Option.bind_some, ee]
      show wp ((c_X0_merge τ (nI g) (nI (A.length + ((L.drop g).take ln).length)) (nI (A.length + ((L.drop g).take ln).length + ((L.drop (g + ln)).take ln).length)) (bI f)).bind _) _
      rw [← hAl] at ep ⊢
      rw [ep, Option.bind_some]
      rw [hAl]
      refine wp_some ⟨g + 2 * ln, c + cr (leP f) ((L.drop g).take ln) ((L.drop (g + ln)).take ln), _, p.2, ?_, by omega, by omega, Nat.dvd_add g3 (Nat.dvd_refl _), q2, st, fun j h1 h2 => ⟨(q3 j h1 h2).1.trans (g6 j h1 h2).1, (q3 j h1 h2).2.trans (g6 j h1 h2).2⟩⟩
      show (nI (T + c) + p.1, nI g + (2 : Int32) * nI ln, p.2) = _
      rw [q1, nI_add, show (2 : Int32) = nI 2 from rfl, pk_mul, nI_add, Nat.add_assoc]
  · obtain ⟨g, c, A, τ, rfl, g1, g2, g3, g4, g5, g6⟩ := hJ
    have hPt := hP.fr g6
    show wp (if τ.1 19 0 ≤ nI g then _ else _) _
    rw [hPt.1, if_pos (nI_le (by omega) (by omega))]
    obtain ⟨f1, f2, f3⟩ := pJ.done h h0 g3 (by omega) g5
    exact wp_some ⟨c, A, rfl, g4, f1, f2, f3, g6⟩
end PIO
