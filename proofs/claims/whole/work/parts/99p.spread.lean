/-! ===== spread: squares of how far any two are apart ===== -/
def q1 : List Int64 → Int
  | [] => 0
  | x :: l => x.toInt + q1 l
def q2 : List Int64 → Int
  | [] => 0
  | x :: l => x.toInt * x.toInt + q2 l
def qd (c : Int) : List Int64 → Int
  | [] => 0
  | x :: l => (c - x.toInt) * (c - x.toInt) + qd c l
def qs (l : List Int64) : Int := (l.length : Int) * q2 l - q1 l * q1 l
theorem q1_app (a b : List Int64) : q1 (a ++ b) = q1 a + q1 b := by
  induction a with
  | nil => rw [List.nil_append, q1, Int.zero_add]
  | cons x a ih => rw [List.cons_append, q1, q1, ih]; omega
theorem q2_app (a b : List Int64) : q2 (a ++ b) = q2 a + q2 b := by
  induction a with
  | nil => rw [List.nil_append, q2, Int.zero_add]
  | cons x a ih => rw [List.cons_append, q2, q2, ih]; omega
theorem qd_app (c : Int) (a b : List Int64) : qd c (a ++ b) = qd c a + qd c b := by
  induction a with
  | nil => rw [List.nil_append, qd, Int.zero_add]
  | cons x a ih => rw [List.cons_append, qd, qd, ih]; omega
theorem q1_perm {a b : List Int64} (h : a.Perm b) : q1 a = q1 b := by
  induction h with
  | nil => rfl
  | cons x _ ih => rw [q1, q1, ih]
  | swap x y l => rw [q1, q1, q1, q1]; omega
  | trans _ _ i1 i2 => rw [i1, i2]
theorem q2_perm {a b : List Int64} (h : a.Perm b) : q2 a = q2 b := by
  induction h with
  | nil => rfl
  | cons x _ ih => rw [q2, q2, ih]
  | swap x y l => rw [q2, q2, q2, q2]; omega
  | trans _ _ i1 i2 => rw [i1, i2]
theorem qs_perm {a b : List Int64} (h : a.Perm b) : qs a = qs b := by
  unfold qs
  rw [q1_perm h, q2_perm h, h.length_eq]
theorem qd_eq (c : Int) (l : List Int64) : qd c l = (l.length : Int) * (c * c) - 2 * c * q1 l + q2 l := by
  induction l with
  | nil => simp [qd, q1, q2]
  | cons x l ih =>
    rw [qd, q1, q2, ih, List.length_cons, Int.natCast_succ]
    grind
theorem qs_snoc (l : List Int64) (x : Int64) : qs (l ++ [x]) = qs l + qd x.toInt l := by
  unfold qs
  rw [qd_eq, q1_app, q2_app, List.length_append]
  show ((l.length + 1 : Nat) : Int) * (q2 l + (x.toInt * x.toInt + 0)) - (q1 l + (x.toInt + 0)) * (q1 l + (x.toInt + 0)) = _
  rw [Int.natCast_succ]
  grind
theorem qs_cons (l : List Int64) (x : Int64) : qs (x :: l) = qs l + qd x.toInt l := by
  rw [← qs_snoc]
  exact qs_perm (List.perm_append_singleton x l).symm
theorem sq0 (d : Int) : 0 ≤ d * d := by
  by_cases h : 0 ≤ d
  · exact Int.mul_nonneg h h
  · have := Int.mul_nonneg (a := -d) (b := -d) (by omega) (by omega)
    rwa [Int.neg_mul_neg] at this
theorem qd_0 (c : Int) (l : List Int64) : 0 ≤ qd c l := by
  induction l with
  | nil => exact Int.le_refl _
  | cons x l ih =>
    rw [qd]
    have := sq0 (c - x.toInt)
    omega
theorem qs_0 (l : List Int64) : 0 ≤ qs l := by
  induction l with
  | nil => exact Int.le_refl _
  | cons x l ih =>
    rw [qs_cons]
    have := qd_0 x.toInt l
    omega
theorem qd_mem {c : Int} {l : List Int64} {y : Int64} (h : y ∈ l) : (c - y.toInt) * (c - y.toInt) ≤ qd c l := by
  induction l with
  | nil => cases h
  | cons x l ih =>
    rw [qd]
    rcases List.mem_cons.mp h with rfl | h
    · have := qd_0 c l
      omega
    · have := ih h
      have := sq0 (c - x.toInt)
      omega
theorem big_sq {d : Int} (h : 3037000499 < d ∨ 3037000499 < -d) : 9223372036854775808 ≤ d * d := by
  rcases h with h | h
  · have := Int.mul_le_mul (a := 3037000500) (b := 3037000500) (c := d) (d := d) (by omega) (by omega) (by decide) (by omega)
    omega
  · have := Int.mul_le_mul (a := 3037000500) (b := 3037000500) (c := -d) (d := -d) (by omega) (by omega) (by decide) (by omega)
    rw [Int.neg_mul_neg] at this
    omega
/-- two that are far apart make it no long -/
theorem qs_far {l : List Int64} {x : Int64} (hx : x ∈ l) (hl : 0 < l.length) (h : 3037000499 < x.toInt - (l.getD 0 ((-9223372036854775808) : Int64)).toInt ∨ 3037000499 < -(x.toInt - (l.getD 0 ((-9223372036854775808) : Int64)).toInt)) : lgB (qs l) = false := by
  cases l with
  | nil => cases hx
  | cons a l =>
    have ea : (a :: l).getD 0 ((-9223372036854775808) : Int64) = a := rfl
    rw [ea] at h
    have h2 : 9223372036854775808 ≤ qs (a :: l) := by
      rw [qs_cons]
      rcases List.mem_cons.mp hx with rfl | hx
      · omega
      · have g1 := qd_mem (c := a.toInt) hx
        have g2 := big_sq (d := a.toInt - x.toInt) (by omega)
        have g3 := qs_0 l
        omega
    unfold lgB
    rw [decide_eq_false (show ¬ qs (a :: l) < 9223372036854775808 by omega), Bool.and_false]
/-- what is taken off all numbers does not matter -/
theorem qs_off (l : List Int64) (c : Int) : (l.length : Int) * (q2 l - 2 * c * q1 l + (l.length : Int) * (c * c)) + (q1 l - (l.length : Int) * c) * -(q1 l - (l.length : Int) * c) = qs l := by
  unfold qs
  grind
theorem mB_w {u : St} {K L K' L' : Int} (h : mB u K L) (h1 : K ≤ K') (h2 : L ≤ L') : mB u K' L' := by
  unfold mB at h ⊢
  omega
